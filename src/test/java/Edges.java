/** Which sentence of the document is being tested, and what was found wrong. */
final class Edges {
    private static final int PROMISES = 59;
    private static final int SECTIONS = 6;
    private static final int SHOWN = 30;
    private static final boolean[] promised = new boolean[PROMISES + 1];
    private static final boolean[] described = new boolean[SECTIONS + 1];
    private static String sentence = "";
    private static int sentences = 0;
    private static int wrong = 0;

    private Edges() {
    }

    static void promise(int number, String words) {
        promised[number] = true;
        begin("promise " + number, words);
    }

    static void section(int number, String words) {
        described[number] = true;
        begin("section " + number, words);
    }

    private static void begin(String where, String words) {
        sentence = where + ", \"" + words + "\"";
        // The second round repeats all sentences.
        sentences += Run.curious ? 0 : 1;
    }

    static void wrong(String what) {
        wrong++;
        System.out.println(sentence + ": " + what);
        if (wrong == SHOWN) {
            System.out.println("and perhaps more: the test ends here");
            System.exit(1);
        }
    }

    static void due(String what, Object got, Object want) {
        if (!String.valueOf(got).equals(String.valueOf(want))) {
            wrong(what + " answered " + got + ", due is " + want);
        }
    }

    /** True if nothing was wrong and no promise and no section was left out. */
    static boolean hold() {
        for (int n = 1; n <= PROMISES; n++) {
            if (!promised[n]) {
                wrong("no edge of promise " + n + " is tested");
            }
        }
        for (int n = 1; n <= SECTIONS; n++) {
            if (!described[n]) {
                wrong("no edge of section " + n + " is tested");
            }
        }
        System.out.println(wrong == 0 ? sentences + " sentences hold at their edges" : wrong + " answers are wrong");
        return wrong == 0;
    }
}
