/** The edges of section 1 and of promises 1 to 13: the buffer, descriptions, their errors, and what they tell. */
final class TextEdges {
    private TextEdges() {
    }

    static void test() {
        newObject();
        buffer();
        loading();
        errorKinds();
        finding();
        runways();
        settings();
        costs();
        flightTimes();
        flightRunways();
        classes();
        lastOneCounts();
        words();
        names();
        spaces();
        wrongBytes();
        endsTooEarly();
        firstErrorEnds();
        manyFlights();
        dealing();
        answersOfFlights();
    }

    private static void right(String text, int flights) {
        Run.begin().append(text).is("load()", flights).is("loadError()", 0);
    }

    private static void error(String text, int kind, int position) {
        Run.middle().then("find()").refusesText(text, kind, position);
    }

    /** A number between the two texts: the last right ones and the first wrong ones on both sides. */
    private static void range(String before, int low, int high, String behind) {
        String start = "runways 1;" + before;
        int flights = before.startsWith("arrival") || before.startsWith("departure") ? 1 : 0;
        right(start + low + behind, flights);
        right(start + high + behind, flights);
        right(start + "000" + low + behind, flights);
        error(start + (high + 1) + behind, 2, start.length());
        error(start + "0" + (high + 1) + behind, 2, start.length());
        if (low > 0) {
            error(start + (low - 1) + behind, 2, start.length());
        }
        // These would be low and high again if only the last 32 or 64 bits of a number counted.
        error(start + (4294967296L + low) + behind, 2, start.length());
        error(start + (4294967296L + high) + behind, 2, start.length());
        error(start + "1844674407370955161" + (6 + low % 4) + behind, 2, start.length());
    }

    private static void newObject() {
        Edges.promise(1, "one runway and without flights, with an empty input buffer and no snapshots");
        Run.begin().is("runwayCount()", 1).is("flightCount()", 0).is("now()", 0).is("loadError()", 0)
                .is("restoreSnapshot(0)", Run.NONE).is("restoreSnapshot(1)", Run.NONE).is("find()", Run.NONE)
                .is("appendByte(114)", 1);
        Run.begin().is("load()", -100).is("loadError()", 1);

        Edges.section(1, "A new object is described by the text \"runways 1\"");
        Run.begin().isLike(Run.of("runways 1"));

        Edges.section(6, "the constants");
        Edges.due("NONE", RunwaySequencer.NONE, -1);
        Edges.due("FULL", RunwaySequencer.FULL, -2);
        Edges.due("WRONG_STATE", RunwaySequencer.WRONG_STATE, -3);
        Edges.due("NOT_ALLOWED", RunwaySequencer.NOT_ALLOWED, -4);
    }

    private static void buffer() {
        Edges.promise(2, "the byte, 0 to 255");
        Run.begin().is("appendByte(0)", 1).is("appendByte(255)", 2)
                .refuses("appendByte(-1)", Run.ARGUMENT).refuses("appendByte(256)", Run.ARGUMENT);

        Edges.promise(2, "FULL if it holds 900 bytes");
        String longText = "runways 3;arrival a light 0 0 0 4" + " ".repeat(866);
        Run full = Run.begin().unbounded().append(longText).is("appendByte(32)", 900);
        full.refuses("appendByte(32)", Run.FULL).refuses("appendByte(255)", Run.FULL);
        full.is("appendByte(97)", Run.FULL).is("load()", 1).is("runwayOf(0)", 2).is("appendByte(97)", 1);

        Edges.section(6, "exceptions come before errors: of appendByte");
        Run.begin().unbounded().append(" ".repeat(900)).refuses("appendByte(256)", Run.ARGUMENT)
                .refuses("appendByte(-1)", Run.ARGUMENT);
    }

    private static void loading() {
        Edges.promise(3, "Returns the number of flights");
        right("runways 1", 0);
        right("runways 1;arrival a light 0 0 0 1", 1);

        Edges.promise(3, "begins at second 0");
        Run.middle().then("find()").append("runways 1;arrival z light 9 9 9 1").is("load()", 1).is("now()", 0)
                .is("doneCount()", 0).is("doneAt(0)", Run.NONE).is("shift()", 2).is("wake(0, 1)", 60)
                .is("isSmooth()", true)
                .is("stateOf(0)", 0).is("flightCount()", 1).is("runwayCount()", 1).is("timeOf(1)", Run.INDEX);
        String next = "runways 3;arrival z light 9 9 9 7;departure y heavy 50 60 70 2";
        Run.of("runways 2;freeze 99;around 99;mixed 9;cost light 1 1;wake light light 9;shift 4;"
                + "arrival a light 0 0 50 3;"
                + "arrival b heavy 5 9 900 3;arrival c light 9 9 900 3;arrival d light 900 900 900 3")
                .then("advance(5)", "goAround(1)", "cancel(3)", "simulate(0, 500, 7200, 0)", "aroundCost(2)",
                        "latestStart(1)", "costWithShift(0)", "costIfAssigned(1, 0)", "advance(20)", "neededShift()")
                .append(next).then("load()").isLike(Run.of(next));
        // Predictions and simulations before the text leave nothing behind either.
        Run.of("runways 1;shift 0;freeze 99;arrival a light 90 90 90 1;arrival b light 90 91 999 1;"
                + "arrival c light 90 92 999 1")
                .then("advance(1)", "aroundCost(0)", "simulate(0, 500, 60, 1)", "costWithShift(0)").append(next)
                .then("load()").is("runwayOf(0)", 0).is("runwayOf(1)", 1).isLike(Run.of(next));
        Run.of("runways 1;freeze 99;arrival a light 90 90 90 1").then("advance(1)", "aroundCost(0)").append(next)
                .then("load()").is("aroundCount(0)", 0).isLike(Run.of(next));

        Edges.promise(3, "The buffer is emptied, also on an error");
        Run.of("runways 1").is("appendByte(97)", 1);
        Run.begin().append("runways 1;").is("load()", -110).is("appendByte(97)", 1);

        Edges.promise(3, "The snapshots stay");
        Run.middle().then("find()").append("runways 3").is("load()", 0).is("restoreSnapshot(0)", 0)
                .is("flightCount()", 5).is("restoreSnapshot(1)", 4).is("stateOf(4)", 3);

        Edges.promise(3, "-100 minus the position of the error, and then everything stays as it is");
        error("x", 1, 0);
        error("runways 1;shift 5", 2, 16);
        error("runways 3;arrival q light 0 0 0 1;arrival q light 0 0 0 1", 3, 42);
        Run.begin().unbounded().append("runways 1;" + " ".repeat(890)).is("load()", -1000).is("loadError()", 1);
    }

    private static void errorKinds() {
        Edges.promise(4, "0 if the text had no error or there was no such call");
        Run.begin().is("loadError()", 0).then("find()").is("loadError()", 0);
        Run.of("runways 1").is("loadError()", 0);

        Edges.promise(4, "the kind of the error of the latest call of load()");
        Run run = Run.begin().append("x").then("load()").is("loadError()", 1);
        run.append("runways 4").then("load()").is("loadError()", 2);
        run.append("runways 1").then("load()").is("loadError()", 0);
        run.append("runways 1;arrival a light 0 0 0 1;arrival a light 0 0 0 1").then("load()").is("loadError()", 3);
        run.then("saveSnapshot(0)", "find()", "restoreSnapshot(0)").is("loadError()", 3);
        run.then("load()").is("loadError()", 1);
        run.is("restoreSnapshot(0)", 0).is("loadError()", 1);
    }

    private static void finding() {
        Run names = Run.of("runways 1;arrival ab light 0 0 0 1;arrival a light 0 0 0 1;arrival abcdef light 0 0 0 1");
        Edges.promise(5, "as a name, without anything else");
        names.append("ab").is("find()", 0).append("a").is("find()", 1).append("abcdef").is("find()", 2);
        for (String other : new String[] {"", " ", "ab ", " ab", "b", "abc", "abcdefg", "AB", "ab;", "ab1", "a b"}) {
            names.append(other).is("find()", Run.NONE);
        }

        Edges.promise(5, "The buffer is emptied in every case");
        names.append("ab").then("find()").is("appendByte(97)", 1).then("find()");
        names.append("zz").then("find()").is("appendByte(97)", 1).then("find()");
        Run.begin().append("ab").is("find()", Run.NONE).is("appendByte(97)", 1);

        Edges.promise(5, "cancelled flights and flights of an earlier text");
        Run.middle().append("b").is("find()", 1).append("d").is("find()", 4);
        Run.middle().then("find()").append("runways 1").then("load()").append("a").is("find()", Run.NONE);
    }

    private static void runways() {
        Edges.promise(6, "Returns 1 to 3");
        for (int count = 1; count <= 3; count++) {
            Run.of("runways " + count).is("runwayCount()", count);
        }

        Edges.section(1, "runways COUNT - 1 to 3; runways are numbered from 0");
        error("runways 0", 2, 8);
        error("runways 4", 2, 8);
        error("runways 4294967297", 2, 8);
        error("runways 18446744073709551617", 2, 8);
        right("runways 003", 0);
        for (int count = 1; count <= 3; count++) {
            Run.of("runways " + count).is("planCost(" + (count - 1) + ")", 0)
                    .refuses("planCost(" + count + ")", Run.INDEX)
                    .refuses("planCost(-1)", Run.INDEX);
        }

        Edges.section(1, "The first statement is runways, and only the first");
        error("shift 1", 1, 0);
        error("arrival a light 0 0 0 1", 1, 0);
        error("shift 1;runways 1", 1, 0);
        error("runways 1;runways 1", 1, 10);
        error("runways 1;shift 1;runways 2", 1, 18);
    }

    private static void settings() {
        Edges.section(1, "wake CLASS CLASS SECONDS, 0 to 600; by default 60 for all");
        range("wake super light ", 0, 600, "");
        Run.of("runways 1;wake super light 0;wake light super 600").is("wake(0, 3)", 0).is("wake(3, 0)", 600);
        for (int k = 0; k < 16; k++) {
            Run.begin().is("wake(" + k / 4 + ", " + k % 4 + ")", 60);
        }

        Edges.section(1, "mixed SECONDS, 0 to 600; by default 60");
        range("mixed ", 0, 600, "");
        String pair = ";arrival a light 0 0 999 1;departure b light 0 0 999 1";
        Run.of("runways 1" + pair).is("separation(0, 1)", 60).is("separation(1, 0)", 60);
        Run.of("runways 1;mixed 0" + pair).is("separation(0, 1)", 0).is("timeOf(1)", 0);
        Run.of("runways 1;mixed 600" + pair).is("separation(1, 0)", 600).is("lastTime(0)", 600);

        Edges.section(1, "shift SHIFT, 0 to 4; by default 2");
        range("shift ", 0, 4, "");
        Run.begin().is("shift()", 2);
        Run.of("runways 1;shift 0").is("shift()", 0);
        Run.of("runways 1;shift 4").is("shift()", 4);

        Edges.section(1, "freeze FREEZE, 0 to 1800; by default 120");
        range("freeze ", 0, 1800, "");
        freezes("", 120);
        freezes(";freeze 0", 0);
        freezes(";freeze 1800", 1800);

        Edges.section(1, "around AROUND, 60 to 3600; by default 600");
        range("around ", 60, 3600, "");
        goesAround("", 600);
        goesAround(";around 60", 60);
        goesAround(";around 3600", 3600);
    }

    /** At second 1 the last flight that is frozen is at 1 plus FREEZE. */
    private static void freezes(String setting, int freeze) {
        Run.of("runways 1" + setting + ";arrival a light " + (1 + freeze) + " 5000 5000 1").then("advance(1)")
                .is("stateOf(0)", 1);
        Run.of("runways 1" + setting + ";arrival a light " + (2 + freeze) + " 5000 5000 1").then("advance(1)")
                .is("stateOf(0)", 0);
    }

    private static void goesAround(String setting, int around) {
        Run.of("runways 1" + setting + ";arrival a light 10 10 10 1").then("advance(5)").is("goAround(0)", 5 + around)
                .is("earliest(0)", 5 + around);
    }

    private static void costs() {
        Edges.section(1, "cost CLASS EARLY LATE, 0 to 9999 each; by default 1000 and 2000 for all classes");
        range("cost light ", 0, 9999, " 5");
        range("cost light 5 ", 0, 9999, "");
        for (String kind : new String[] {"super", "heavy", "medium", "light"}) {
            String early = ";arrival a " + kind + " 0 1 999 1";
            String late = ";shift 0;arrival a " + kind + " 0 0 999 1;arrival b " + kind + " 0 59 999 1";
            Run.of("runways 1" + early).is("totalCost()", 1000);
            Run.of("runways 1" + late).is("totalCost()", 2000);
            Run.of("runways 1;cost " + kind + " 0 9999" + early).is("totalCost()", 0);
            Run.of("runways 1;cost " + kind + " 0 9999" + late).is("totalCost()", 9999);
            Run.of("runways 1;cost " + kind + " 9999 0" + early).is("totalCost()", 9999);
            Run.of("runways 1;cost " + kind + " 9999 0" + late).is("totalCost()", 0);
        }
    }

    private static void flightTimes() {
        for (String word : new String[] {"arrival", "departure"}) {
            Edges.section(1, "EARLIEST is 0 to 99999");
            range(word + " q light ", 0, 99999, " 99999 99999 1");
            Edges.section(1, "TARGET EARLIEST to 99999");
            range(word + " q light 5000 ", 5000, 99999, " 99999 1");
            range(word + " q light 99999 ", 99999, 99999, " 99999 1");
            range(word + " q light 0 ", 0, 99999, " 99999 1");
            Edges.section(1, "LATEST TARGET to 99999");
            range(word + " q light 5 5000 ", 5000, 99999, " 1");
            range(word + " q light 0 0 ", 0, 99999, " 1");
            range(word + " q light 99999 99999 ", 99999, 99999, " 1");
        }
        Run.of("runways 1;arrival a light 0 0 0 1;departure b light 99999 99999 99999 1").is("earliest(0)", 0)
                .is("target(0)", 0).is("latest(0)", 0).is("earliest(1)", 99999).is("target(1)", 99999)
                .is("latest(1)", 99999);
    }

    private static void flightRunways() {
        Edges.section(1, "RUNWAYS is the sum of 2^k over the runways k that it may use, at least 1");
        for (int count = 1; count <= 3; count++) {
            String start = "runways " + count + ";departure q light 0 0 0 ";
            int all = (1 << count) - 1;
            error(start + 0, 2, start.length());
            error(start + (all + 1), 2, start.length());
            error(start + "4294967297", 2, start.length());
            for (int sum = 1; sum <= all; sum++) {
                Run run = Run.of(start + sum);
                for (int r = 0; r < count; r++) {
                    boolean may = sum / (1 << r) % 2 == 1;
                    Edges.due("assign(0, " + r + ") with " + sum,
                            run.answer("assign(0, " + r + ")").equals(String.valueOf(Run.NOT_ALLOWED)), !may);
                }
            }
        }
    }

    private static void classes() {
        Edges.section(1, "A CLASS is one of super, heavy, medium and light (0 to 3)");
        Run.of("runways 1;arrival a super 0 0 0 1;arrival b heavy 0 0 0 1;arrival c medium 0 0 0 1;"
                + "arrival d light 0 0 0 1").is("classOf(0)", 0).is("classOf(1)", 1).is("classOf(2)", 2)
                .is("classOf(3)", 3);
        for (String other : new String[] {"supe", "superb", "heav", "heavyy", "mediu", "mediums", "ligh", "lights",
                "wake"}) {
            error("runways 1;arrival q " + other + " 0 0 0 1", 1, 20);
            error("runways 1;wake " + other + " light 5", 1, 15);
            error("runways 1;wake light " + other + " 5", 1, 21);
            error("runways 1;cost " + other + " 5 5", 1, 15);
        }
    }

    private static void lastOneCounts() {
        Edges.section(1, "Of several statements that set the same, the last one counts");
        Run.of("runways 1;wake heavy light 5;wake light heavy 6;wake heavy light 7").is("wake(1, 3)", 7)
                .is("wake(3, 1)", 6);
        Run.of("runways 1;shift 4;shift 0;shift 1").is("shift()", 1);
        String pair = ";arrival a light 0 0 999 1;departure b light 0 0 999 1";
        Run.of("runways 1;mixed 5;mixed 6" + pair).is("separation(0, 1)", 6);
        freezes(";freeze 9;freeze 50", 50);
        goesAround(";around 99;around 88", 88);
        Run.of("runways 1;cost light 7 7;cost heavy 8 8;cost light 0 3;arrival a light 0 5 9 1").is("totalCost()", 0);

        Edges.section(1, "The others may occur in any order");
        Run.of("runways 1" + pair + ";cost light 0 1;mixed 9;shift 0").is("totalCost()", 9).is("shift()", 0);
    }

    private static void words() {
        Edges.section(1, "A word is a maximal run of lower-case letters, a number a maximal run of digits");
        error("runwaysx 1", 1, 0);
        error("runway 1", 1, 0);
        error("runways 1;shiftt 1", 1, 10);
        error("runways 1;shif 1", 1, 10);
        error("runways 1;wakelight light 5", 1, 10);
        error("runways 1;wake lightlight 5", 1, 15);
        for (String word : new String[] {"runways 1", "shift 1", "mixed 1", "freeze 1", "around 60",
                "wake light light 1",
            "cost light 1 1", "arrival q light 0 0 0 1", "departure q light 0 0 0 1"}) {
            String start = word.startsWith("runways") ? "" : "runways 1;";
            right(start + word, word.contains("q") ? 1 : 0);
            for (int i = 0; i < word.indexOf(' '); i++) {
                error(start + word.substring(0, i) + 'q' + word.substring(i + 1), 1, start.length());
            }
        }
        error("runways 12", 2, 8);
        right("runways 0000000000000000000000000000000000000003", 0);
        error("runways 1;around 0000000000000000000000000000000059", 2, 17);
        error("runways 1;mixed 99999999999999999999999999999999999", 2, 16);
        error("runways 1;shift 1 1", 1, 18);
        error("runways 1;shift 1x", 1, 17);
        error("runways 1x", 1, 9);
        error("runways -1", 1, 8);
        error("runways 1;mixed -5", 1, 16);
        error("runways 1;mixed 1.5", 1, 17);
    }

    private static void names() {
        Edges.section(1, "A name is a word of 1 to 6 letters");
        Run.of("runways 1;arrival z light 0 0 0 1;arrival zyxwvu light 0 0 0 1").is("nameByte(0, 0)", 122)
                .is("nameByte(0, 1)", Run.NONE).is("nameByte(1, 5)", 117).is("nameByte(1, 6)", Run.NONE);
        error("runways 1;arrival zyxwvut light 0 0 0 1", 1, 18);
        error("runways 1;departure zyxwvut light 0 0 0 1", 1, 20);
        error("runways 1;arrival  5 light 0 0 0 1", 1, 19);
        error("runways 1;arrival ;", 1, 18);
        error("runways 1;arrival A light 0 0 0 1", 1, 18);
        error("runways 1;arrival aB light 0 0 0 1", 1, 19);
        error("runways 1;arrival a1 light 0 0 0 1", 1, 19);

        Edges.section(1, "any such word may be a name");
        for (String word : new String[] {"wake", "mixed", "shift", "freeze", "around", "cost", "super", "light"}) {
            right("runways 1;arrival " + word + " light 0 0 0 1", 1);
        }

        Edges.section(1, "Error 3: a name that another flight has already (position of the name)");
        error("runways 1;arrival q light 0 0 0 1;arrival q light 0 0 0 1", 3, 42);
        error("runways 1;arrival q light 0 0 0 1;departure   q super 9 9 9 1", 3, 46);
        error("runways 1;arrival zyxwvu light 0 0 0 1;departure zyxwvu light 0 0 0 1", 3, 49);
        error("runways 1;arrival q light 0 0 0 1;arrival q", 3, 42);
        error("runways 1;arrival q light 0 0 0 1;arrival q lights 0 0 0 1", 3, 42);
        right("runways 1;arrival q light 0 0 0 1;arrival qq light 0 0 0 1;arrival qr light 0 0 0 1", 3);
        right("runways 1;arrival qr light 0 0 0 1;arrival q light 0 0 0 1;arrival rq light 0 0 0 1", 3);
        Run.middle().then("find()").append("runways 1;arrival a light 0 0 0 1").is("load()", 1);
    }

    private static void spaces() {
        Edges.section(1, "Spaces may stand before and after words, numbers and semicolons");
        Run.of("   runways   2   ;   wake   heavy   light   5   ;   cost   light   0   0   ;"
                + "   arrival   a   light   1   "
                + "2   3   3   ").is("wake(1, 3)", 5).is("latest(0)", 3);

        Edges.section(1, "they are required only between two words and between two numbers");
        Run.of("runways2;wake heavy light5;cost light6 7;mixed8;shift3;freeze9;around60;arrival a light1 2 3 3")
                .is("wake(1, 3)", 5).is("shift()", 3).is("latest(0)", 3);
        error("runways 1;arrivala light 0 0 0 1", 1, 10);
        error("runways 1;arrival alight 0 0 0 1", 1, 25);
        error("runways 1;arrival a light 0 0 01", 1, 32);
        error("runways 1;cost light 55", 1, 23);
    }

    private static void wrongBytes() {
        Edges.section(1, "Error 1: a byte cannot stand at its place (position of the byte)");
        for (int b : new int[] {0, 9, 10, 13, 31, 33, 47, 58, 60, 64, 65, 90, 91, 96, 123, 127, 128, 160, 255}) {
            char c = (char) b;
            error(c + "runways 1", 1, 0);
            error("runways" + c + "1", 1, 7);
            error("runways 1" + c, 1, 9);
            error("runways 1 ;" + c + "shift 1", 1, 11);
            error("runways 1;shift " + c, 1, 16);
            error("runways 1;wake" + c, 1, 14);
            error("runways 1;arrival q light 0 0 " + c, 1, 30);
        }
        error(";runways 1", 1, 0);
        error("1 runways", 1, 0);
        error("runways 1;;shift 1", 1, 10);
        error("runways 1;shift;1", 1, 15);
        error("runways 1 shift 1", 1, 10);
        error("runways 1;7", 1, 10);

        Edges.section(1, "Error 1: a word cannot stand at its place (position of the word's first byte)");
        error("runways one", 1, 8);
        error("runways 1;land q light 0 0 0 1", 1, 10);
        error("runways 1;  arrivals q light 0 0 0 1", 1, 12);
        error("runways 1;shift two", 1, 16);
        error("runways 1;cost light many 5", 1, 21);
        error("runways 1;cost light 5 many", 1, 23);
        error("runways 1;arrival q light zero 0 0 1", 1, 26);
        error("runways 1;arrival q light 0 zero 0 1", 1, 28);
        error("runways 1;arrival q light 0 0 zero 1", 1, 30);
        error("runways 1;arrival q light 0 0 0 all", 1, 32);
        error("runways 1;wake 5 light 5", 1, 15);
        error("runways 1;wake light 5 light", 1, 21);
        error("runways 1;cost 5 light 5", 1, 15);
        error("runways 1;arrival q 0 0 0 1", 1, 20);
    }

    private static void endsTooEarly() {
        Edges.section(1, "the text ends too early (position: its length)");
        String[] tooShort = {"", " ", "    ", "runways", "runways ", "runways 1;", "runways 1;  ", "runways 1;shift",
            "runways 1;shift  ", "runways 1;wake", "runways 1;wake light", "runways 1;wake light light",
            "runways 1;wake light light ", "runways 1;cost", "runways 1;cost light", "runways 1;cost light 5",
            "runways 1;cost light 5 ", "runways 1;mixed", "runways 1;freeze", "runways 1;around", "runways 1;arrival",
            "runways 1;arrival ", "runways 1;arrival q", "runways 1;arrival q light", "runways 1;arrival q light 0",
            "runways 1;arrival q light 0 0", "runways 1;arrival q light 0 0 0", "runways 1;arrival q light 0 0 0 ",
            "runways 1;arrival q light 0 0 0 1;", "runways 1;departure", "runways 1;departure q light 0 0 0"};
        for (String text : tooShort) {
            error(text, 1, text.length());
        }
        Run.begin().unbounded().refusesText(" ".repeat(876) + "runways1;arrival  zyxwvu", 1, 900)
                .refusesText(" ".repeat(883) + "runways1;arrival ", 1, 900)
                .refusesText(" ".repeat(893) + "runways", 1, 900)
                .refusesText(" ".repeat(891) + "runways 4", 2, 899).append(" ".repeat(892) + "runways3")
                .is("load()", 0);
        // A word that is cut off cannot stand at its place: it is no text that ends too early.
        error("runway", 1, 0);
        error("runways 1;arriva", 1, 10);
        error("runways 1;wake ligh", 1, 15);
        error("runways 1;arrival q ligh", 1, 20);
    }

    private static void firstErrorEnds() {
        Edges.section(1, "The text is read from left to right; the first error ends it");
        error("runways 9;arrival", 2, 8);
        error("runways 9x", 2, 8);
        error("runways 1;shift 5;shift x", 2, 16);
        error("runways 1;shift x;shift 5", 1, 16);
        error("runways 1;arrival zyxwvut lights 0 0 0 1", 1, 18);
        error("runways 1;arrival q lights 100000 0 0 1", 1, 20);
        error("runways 1;arrival q light 100000 x", 2, 26);
        error("runways 1;arrival q light 5 4 3 9", 2, 28);
        error("runways 1;arrival q light 5 5 4 9", 2, 30);
        error("runways 1;cost light 10000 10000", 2, 21);
        error("runways 1;arrival q light 0 0 0 2;arrival q light 0 0 0 1", 2, 32);
    }

    private static String flights(int count) {
        StringBuilder b = new StringBuilder("runways 1");
        for (int i = 0; i < count; i++) {
            b.append(i % 2 == 0 ? ";arrival " : ";departure ").append((char) ('a' + i)).append(" light 0 0 0 1");
        }
        return b.toString();
    }

    private static void manyFlights() {
        Edges.promise(7, "Returns 0 to 24");
        for (int count : new int[] {0, 1, 23, 24}) {
            Run.begin().unbounded().append(flights(count)).is("load()", count).is("flightCount()", count);
        }
        Edges.promise(7, "cancelled ones included");
        Run.of(flights(2)).then("cancel(0)").is("flightCount()", 2).then("cancel(1)").is("flightCount()", 2);

        Edges.section(1, "At most 24 flights, numbered from 0 in the order of the text");
        Run many = Run.begin().unbounded().append(flights(24)).then("load()");
        for (int f = 0; f < 24; f++) {
            many.is("nameByte(" + f + ", 0)", 'a' + f).is("isArrival(" + f + ")", f % 2 == 0);
        }
        many.is("classOf(24)", Run.INDEX);
        String full = flights(23) + ";departure zyxwvu light 0 0 0 1";
        Run.begin().unbounded().append(full).is("load()", 24).is("nameByte(23, 5)", 117).is("nameByte(22, 0)", 119)
                .append("zyxwvu").is("find()", 23);
        Run.begin().unbounded().append(flights(24) + ";shift 1 ").is("load()", 24).is("shift()", 1);

        Edges.section(1, "Error 4: a 25th flight (position of the word arrival or departure)");
        int length = flights(24).length();
        Run base = Run.begin().unbounded();
        base.refusesText(flights(25), 4, length + 1);
        base.refusesText(flights(24) + ";  departure y light 0 0 0 1", 4, length + 3);
        base.refusesText(flights(24) + ";arrival", 4, length + 1);
        base.refusesText(flights(24) + ";departure a", 4, length + 1);
        base.refusesText(flights(24) + ";arrivals", 1, length + 1);
        base.refusesText(flights(24) + ";", 1, length + 1);
        base.refusesText(flights(23) + ";arrival a light 0 0 0 1", 3, flights(23).length() + 9);
    }

    private static void dealing() {
        Edges.section(1, "At first, all flights are planned");
        Run.of(flights(3)).is("stateOf(0)", 0).is("stateOf(1)", 0).is("stateOf(2)", 0).is("placeOf(2)", 2);

        Edges.section(1, "in the order of their targets, of equal targets the smaller number first");
        Run.of("runways 2;arrival a light 0 9 9 3;arrival b light 0 8 9 3;arrival c light 0 9 9 3")
                .is("runwayOf(1)", 0).is("runwayOf(0)", 1).is("runwayOf(2)", 0);
        Run.of("runways 2;arrival a light 0 9 9 3;arrival b light 0 9 9 3;arrival c light 0 9 9 3")
                .is("runwayOf(0)", 0).is("runwayOf(1)", 1).is("runwayOf(2)", 0);

        Edges.section(1, "to the runway that it may use and that has the fewest flights, of several the smallest one");
        Run.of("runways 3;arrival a light 0 1 9 7;arrival b light 0 2 9 7;arrival c light 0 3 9 7;"
                + "arrival d light 0 4 9 7")
                .is("runwayOf(0)", 0).is("runwayOf(1)", 1).is("runwayOf(2)", 2).is("runwayOf(3)", 0);
        Run.of("runways 3;arrival a light 0 1 9 4;arrival b light 0 2 9 4;arrival c light 0 3 9 6;"
                + "arrival d light 0 4 9 6;"
                + "arrival e light 0 5 9 6;arrival f light 0 6 9 7").is("runwayOf(1)", 2).is("runwayOf(2)", 1)
                .is("runwayOf(3)", 1).is("runwayOf(4)", 1).is("runwayOf(5)", 0);
    }

    private static void answersOfFlights() {
        Run two = Run.of("runways 1;arrival abcdef super 1 20 300 1;departure g light 4 5 6 1");
        Edges.promise(8, "NONE if there is no such index");
        two.is("nameByte(0, 0)", 97).is("nameByte(0, 5)", 102).is("nameByte(0, 6)", Run.NONE)
                .is("nameByte(0, -1)", Run.NONE)
                .is("nameByte(1, 0)", 103).is("nameByte(1, 1)", Run.NONE).is("nameByte(1, 5)", Run.NONE)
                .is("nameByte(0, 2147483647)", Run.NONE).is("nameByte(1, -2147483648)", Run.NONE);
        Edges.section(6, "exceptions come before errors: of nameByte");
        two.is("nameByte(2, 9)", Run.INDEX).is("nameByte(-1, -1)", Run.INDEX);

        Edges.promise(9, "true if it is an arrival, false if it is a departure");
        two.is("isArrival(0)", true).is("isArrival(1)", false);
        Edges.promise(10, "0 super, 1 heavy, 2 medium, 3 light");
        two.is("classOf(0)", 0).is("classOf(1)", 3);
        Edges.promise(11, "the earliest time of a flight, also of a cancelled one");
        two.is("earliest(0)", 1).is("earliest(1)", 4);
        Edges.promise(12, "the target time of a flight, also of a cancelled one");
        two.is("target(0)", 20).is("target(1)", 5);
        Edges.promise(13, "the latest time of a flight, also of a cancelled one");
        two.is("latest(0)", 300).is("latest(1)", 6);
        two.then("cancel(1)").is("earliest(1)", 4).is("target(1)", 5).is("latest(1)", 6).is("isArrival(1)", false)
                .is("classOf(1)", 3).is("nameByte(1, 0)", 103);
    }
}
