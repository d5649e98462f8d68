import java.lang.reflect.InvocationTargetException;
import java.lang.reflect.Method;
import java.util.ArrayList;
import java.util.HashMap;
import java.util.List;
import java.util.Map;

/**
 * An object under test with all that was called on it, so that the same run can be made again on other objects: two
 * of them, one with a refused call and one without it, must answer everything alike.
 */
final class Run {
    static final int NONE = -1;
    static final int FULL = -2;
    static final int WRONG_STATE = -3;
    static final int NOT_ALLOWED = -4;
    static final String ARGUMENT = "throws IllegalArgumentException";
    static final String INDEX = "throws IndexOutOfBoundsException";

    /** The document promises nothing behind an object's 512th call. */
    private static final int PROMISED_CALLS = 512;

    /** F and G go through the flights, R the runways, C and D the classes, S the shifts, N the places, W 0 to 3. */
    private static final String PLACEHOLDERS = "FGRCDSNW";
    private static final String[] QUERIES = {
        "runwayCount()", "flightCount()", "nameByte(F, 0)", "nameByte(F, 1)", "isArrival(F)", "classOf(F)",
        "earliest(F)", "target(F)", "latest(F)", "wake(C, D)", "separation(F, G)", "longerTriples()", "now()",
        "shift()", "runwayOf(F)", "stateOf(F)", "timeOf(F)", "placeOf(F)", "firstComePlace(F)", "plannedAt(R, N)",
        "delay(F)", "isLate(F)", "costOf(F)", "totalCost()", "planCost(R)", "firstComeCost(R)", "meanDelay()",
        "lateCount()", "allowedSequences(R)", "equalSequences(R)", "slack(F)", "binding(F)", "pastNeighbor()",
        "lastTime(R)", "doneCount()", "doneAt(N)", "aroundCount(F)", "isSmooth()", "costWithShift(S)",
        "neededShift()", "costIfAssigned(F, R)", "bestRunway(F)", "aroundCost(F)", "latestStart(F)",
        "timeInserted(C, 0, R)", "simulate(7, 300, 600, W)"};

    /** What may come next on an object; the first four show the plans and the snapshots, the others the buffer too. */
    private static final String[][] ENDINGS = {
        {}, {"restoreSnapshot(0)"}, {"restoreSnapshot(1)"}, {"advance(61)"},
        {"loadError()"}, {"find()"}, {"appendByte(98)", "find()"}, {"load()", "loadError()"}};
    private static final int ENDINGS_WITHOUT_BUFFER = 4;

    private static final Map<String, Method> FACE = new HashMap<>();

    /** Whether the plans are asked for before each call: what was asked must not matter to what is answered. */
    static boolean curious = false;

    static {
        for (Method m : RunwaySequencer.class.getDeclaredMethods()) {
            FACE.put(m.getName(), m);
        }
    }

    private final RunwaySequencer x = new RunwaySequencer();
    private final List<String> log = new ArrayList<>();
    private int calls = 0;
    private boolean unbounded = false;

    static Run begin() {
        return new Run();
    }

    static Run of(String text) {
        Run run = new Run().append(text);
        if (run.answer("load()").startsWith("-")) {
            Edges.wrong("a right text is refused: " + text);
        }
        return run;
    }

    /** For limits that 512 calls cannot reach: 900 bytes and 24 flights. */
    Run unbounded() {
        unbounded = true;
        return this;
    }

    /** Flights in all four states, both snapshots, an error of the latest load, and "a" in the buffer. */
    static Run middle() {
        return of("runways 2;freeze 99;arrival a light 0 0 50 1;arrival ab heavy 0 9 900 1;"
                + "departure b light 90 95 96 2;"
                + "arrival c medium 300 400 500 3;arrival d light 9 400 500 2")
                .then("saveSnapshot(0)", "cancel(4)", "advance(4)", "saveSnapshot(1)", "setShift(3)",
                        "setWake(0, 1, 77)", "advance(6)").append("runways 9").then("load()").append("a");
    }

    Run append(String text) {
        log.add('"' + text);
        for (int i = 0; i < text.length(); i++) {
            x.appendByte(text.charAt(i));
            count();
        }
        return this;
    }

    /** Calls whose answers do not matter. */
    Run then(String... made) {
        for (String call : made) {
            answer(call);
        }
        return this;
    }

    Run is(String call, Object want) {
        Edges.due(call + behind(), answer(call), want);
        return this;
    }

    /** Answers with an error or an exception, and nothing changes; the call is made on another object. */
    Run refuses(String call, Object want) {
        Edges.due(call + behind(), again().answer(call), want);
        compare(again().then(call), this, ENDINGS.length, call);
        return this;
    }

    /** What another object answers behind the same run. */
    String isAnswered(String call) {
        return again().answer(call);
    }

    /** A prediction: nothing changes by it. */
    Run predicts(String call, Object want) {
        return refuses(call, want).is(call, want);
    }

    /** The text has an error: everything but the buffer and loadError() stays. */
    Run refusesText(String text, int kind, int position) {
        Run other = again().append(text);
        Edges.due("load() of \"" + text + "\"", other.answer("load()"), -100 - position);
        Edges.due("loadError() of \"" + text + "\"", other.answer("loadError()"), kind);
        compare(other, this, ENDINGS_WITHOUT_BUFFER, "load() of \"" + text + "\"");
        Edges.due("the buffer behind \"" + text + "\"", other.answer("appendByte(97)"), 1);
        return this;
    }

    /** The same answers to everything that can be asked, whatever comes next. */
    Run isLike(Run other) {
        compare(this, other, ENDINGS_WITHOUT_BUFFER, "the run" + behind());
        return this;
    }

    /** Asks everything that can be asked; nothing of it may throw. */
    Run answersAll() {
        for (String seen : again().ending(new String[0])) {
            if (seen.contains("throws")) {
                Edges.wrong(seen + behind());
            }
        }
        return this;
    }

    String answer(String call) {
        log.add(call);
        count();
        int open = call.indexOf('(');
        String inside = call.substring(open + 1, call.length() - 1);
        String[] texts = inside.isEmpty() ? new String[0] : inside.split(", ");
        Object[] arguments = new Object[texts.length];
        for (int i = 0; i < texts.length; i++) {
            arguments[i] = Integer.parseInt(texts[i]);
        }
        if (curious) {
            x.totalCost();
        }
        try {
            return String.valueOf(FACE.get(call.substring(0, open)).invoke(x, arguments));
        } catch (InvocationTargetException e) {
            return thrown(call, e.getCause());
        } catch (IllegalAccessException e) {
            return "is not public";
        }
    }

    /** The document names two exceptions; any other one is the machine's own. */
    private static String thrown(String call, Throwable e) {
        String name = "throws " + e.getClass().getSimpleName();
        if (!name.equals(ARGUMENT) && !name.equals(INDEX)) {
            Edges.wrong(call + " " + name);
        }
        return name;
    }

    private void count() {
        calls++;
        if (calls == PROMISED_CALLS + 1 && !unbounded && !curious) {
            Edges.wrong("the test itself makes more than 512 calls" + behind());
        }
    }

    private String behind() {
        StringBuilder b = new StringBuilder(" behind");
        for (int i = Math.max(0, log.size() - 6); i < log.size(); i++) {
            b.append(' ').append(log.get(i));
        }
        return b.toString();
    }

    private Run again() {
        Run other = new Run();
        other.unbounded = unbounded;
        for (String entry : log) {
            if (entry.startsWith("\"")) {
                other.append(entry.substring(1));
            } else {
                other.answer(entry);
            }
        }
        return other;
    }

    private static void compare(Run one, Run other, int endings, String what) {
        for (int i = 0; i < endings; i++) {
            List<String> got = one.again().ending(ENDINGS[i]);
            List<String> want = other.again().ending(ENDINGS[i]);
            int k = 0;
            while (k < got.size() && k < want.size() && got.get(k).equals(want.get(k))) {
                k++;
            }
            if (k < got.size() || k < want.size()) {
                Edges.wrong(what + " has changed " + (k < want.size() ? want.get(k) : "the number of answers")
                        + " to " + (k < got.size() ? got.get(k) : "nothing"));
            }
        }
    }

    private List<String> ending(String[] next) {
        List<String> seen = new ArrayList<>();
        for (String call : next) {
            seen.add(call + " " + answer(call));
        }
        int flights = Integer.parseInt(answer("flightCount()"));
        int runways = Integer.parseInt(answer("runwayCount()"));
        for (String query : QUERIES) {
            ask(query, seen, new int[] {flights, flights, runways, 4, 4, 5, flights + 1, 4});
        }
        return seen;
    }

    private void ask(String query, List<String> seen, int[] ends) {
        int inside = query.indexOf('(');
        for (int i = 0; i < PLACEHOLDERS.length(); i++) {
            int at = query.indexOf(PLACEHOLDERS.charAt(i), inside);
            if (at >= 0) {
                for (int value = 0; value < ends[i]; value++) {
                    ask(query.substring(0, at) + value + query.substring(at + 1), seen, ends);
                }
                return;
            }
        }
        seen.add(query + " " + answer(query));
    }
}
