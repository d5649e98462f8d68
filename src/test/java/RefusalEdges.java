/** The edges of section 6: every parameter of every call, at the ends of its range and beyond them. */
final class RefusalEdges {
    private static final String[] OF_FLIGHT = {"isArrival", "classOf", "earliest", "target", "latest", "runwayOf",
            "cancel",
        "goAround", "stateOf", "timeOf", "placeOf", "firstComePlace", "delay", "isLate", "costOf", "slack", "binding",
        "aroundCount", "bestRunway", "aroundCost", "latestStart"};
    private static final int[] OF_FLIGHT_PROMISES = {9, 10, 11, 12, 13, 22, 24, 25, 26, 27, 28, 29, 31, 32, 33, 41, 42,
            47,
        52, 54, 55};
    private static final String[] OF_RUNWAY = {"planCost", "firstComeCost", "allowedSequences", "equalSequences",
            "lastTime"};
    private static final int[] OF_RUNWAY_PROMISES = {35, 36, 39, 40, 44};

    private RefusalEdges() {
    }

    static void test() {
        flights();
        runways();
        pairs();
        numbers();
        afterLoads();
        full();
    }

    private interface State {
        Run make();
    }

    private static final State[] STATES = {
        Run::begin, Run::middle, () -> Run.of("runways 3;arrival a light 5 9 99 7").then("advance(1)")};
    private static final int[] FLIGHTS = {0, 5, 1};
    private static final int[] RUNWAYS = {1, 2, 3};

    /** Before and behind stand the other arguments; what is in the range must not throw, what is beyond must. */
    private static void range(Run run, String before, long low, long high, String behind, String want) {
        long[] tried = {Integer.MIN_VALUE, low - 1, low, high, high + 1, Integer.MAX_VALUE};
        for (long value : tried) {
            if (value < Integer.MIN_VALUE || value > Integer.MAX_VALUE) {
                continue;
            }
            String call = before + value + behind;
            if (value >= low && value <= high) {
                String got = run.isAnswered(call);
                if (got.startsWith("throws")) {
                    Edges.wrong(call + " " + got);
                }
            } else {
                run.refuses(call, want);
            }
        }
    }

    private static void flights() {
        for (int i = 0; i < OF_FLIGHT.length; i++) {
            Edges.promise(OF_FLIGHT_PROMISES[i], "IndexOutOfBoundsException if there is no such flight");
            for (int s = 0; s < STATES.length; s++) {
                range(STATES[s].make(), OF_FLIGHT[i] + "(", 0, FLIGHTS[s] - 1, ")", Run.INDEX);
            }
        }
        Edges.section(1, "a flight, 0 to 23 at most");
        StringBuilder text = new StringBuilder("runways 1");
        for (int i = 0; i < 24; i++) {
            text.append(";arrival ").append((char) ('a' + i)).append(" light 0 0 0 1");
        }
        Run many = Run.begin().unbounded().append(text.toString()).then("load()");
        for (String name : new String[] {"stateOf", "timeOf", "nameByte"}) {
            String behind = name.equals("nameByte") ? ", 0)" : ")";
            many.is(name + "(24" + behind, Run.INDEX);
            Edges.due(name + "(23)", many.answer(name + "(23" + behind).startsWith("throws"), false);
        }
    }

    private static void runways() {
        for (int i = 0; i < OF_RUNWAY.length; i++) {
            Edges.promise(OF_RUNWAY_PROMISES[i], "IndexOutOfBoundsException if there is no such runway");
            for (int s = 0; s < STATES.length; s++) {
                range(STATES[s].make(), OF_RUNWAY[i] + "(", 0, RUNWAYS[s] - 1, ")", Run.INDEX);
            }
        }
    }

    private static void pairs() {
        for (int s = 0; s < STATES.length; s++) {
            Run run = STATES[s].make();
            int flight = FLIGHTS[s] - 1;
            int runway = RUNWAYS[s] - 1;
            Edges.promise(8, "IndexOutOfBoundsException if there is no such flight");
            range(run, "nameByte(", 0, flight, ", 0)", Run.INDEX);
            Edges.promise(30, "IndexOutOfBoundsException if there is no such runway");
            range(run, "plannedAt(", 0, runway, ", 0)", Run.INDEX);
            Edges.promise(56, "IndexOutOfBoundsException if there is no such runway");
            range(run, "timeInserted(0, 0, ", 0, runway, ")", Run.INDEX);
            if (flight >= 0) {
                Edges.promise(15, "IndexOutOfBoundsException if one of them does not exist");
                range(run, "separation(", 0, flight, ", 0)", Run.INDEX);
                range(run, "separation(0, ", 0, flight, ")", Run.INDEX);
                Edges.promise(23, "IndexOutOfBoundsException if there is no such flight or runway");
                range(run, "assign(", 0, flight, ", 0)", Run.INDEX);
                range(run, "assign(0, ", 0, runway, ")", Run.INDEX);
                Edges.promise(51, "IndexOutOfBoundsException if there is no such flight or runway");
                range(run, "costIfAssigned(", 0, flight, ", 0)", Run.INDEX);
                range(run, "costIfAssigned(0, ", 0, runway, ")", Run.INDEX);
            } else {
                run.refuses("separation(0, 0)", Run.INDEX).refuses("assign(0, 0)", Run.INDEX)
                        .refuses("costIfAssigned(0, 0)", Run.INDEX);
            }
        }
    }

    private static void numbers() {
        Object[][] rows = {{2, "appendByte(", 0, 255, ")"}, {14, "wake(", 0, 3, ", 0)"}, {14, "wake(3, ", 0, 3, ")"},
            {18, "advance(", 1, 7200, ")"}, {20, "setShift(", 0, 4, ")"}, {21, "setWake(", 0, 3, ", 0, 0)"},
            {21, "setWake(0, ", 0, 3, ", 0)"}, {21, "setWake(3, 3, ", 0, 600, ")"}, {49, "costWithShift(", 0, 4, ")"},
            {56, "timeInserted(", 0, 3, ", 0, 0)"}, {56, "timeInserted(3, ", 0, 200000, ", 0)"},
            {57, "simulate(", 0, 2147483647, ", 0, 1, 0)"}, {57, "simulate(0, ", 0, 500, ", 1, 0)"},
            {57, "simulate(0, 0, ", 1, 7200, ", 0)"}, {57, "simulate(0, 0, 1, ", 0, 3, ")"},
            {58, "saveSnapshot(", 0, 1, ")"}, {59, "restoreSnapshot(", 0, 1, ")"}};
        for (Object[] row : rows) {
            Edges.promise((Integer) row[0], "IllegalArgumentException if a parameter is out of range");
            for (State state : STATES) {
                range(state.make(), (String) row[1], (Integer) row[2], (Integer) row[3], (String) row[4], Run.ARGUMENT);
            }
        }
    }

    private static void afterLoads() {
        Edges.section(6, "flights and runways of an earlier text do not exist any more");
        Run fewer = Run.middle().then("find()").append("runways 1;arrival z light 0 0 0 1").is("load()", 1);
        fewer.refuses("stateOf(1)", Run.INDEX).refuses("nameByte(4, 0)", Run.INDEX).refuses("planCost(1)", Run.INDEX);
        fewer.is("restoreSnapshot(0)", 0).is("stateOf(4)", 0).is("planCost(1)", 145000)
                .refuses("stateOf(5)", Run.INDEX);
        Edges.section(6, "except that load() empties the buffer and sets the result of loadError()");
        Run.middle().refusesText("", 1, 0);
        Run.middle().then("find()").refusesText("runways 4", 2, 8);
    }

    private static Run crowd(int runways, int usable) {
        StringBuilder text = new StringBuilder("runways " + runways);
        for (int i = 0; i < 24; i++) {
            text.append(i % 5 == 4 ? ";departure " : ";arrival ").append((char) ('a' + i)).append(" light 0 0 9 ")
                    .append(usable);
        }
        return Run.begin().unbounded().append(text.toString()).is("load()", 24);
    }

    private static void full() {
        Edges.section(6, "nothing throws by itself: 24 flights, planned, frozen and done, on one to three runways");
        for (int runways = 1; runways <= 3; runways++) {
            Run run = crowd(runways, (1 << runways) - 1).answersAll();
            run.then("saveSnapshot(0)", "advance(1)").answersAll()
                    .is("advance(1500)", runways == 1 ? 23 : 24 - runways);
            run.answersAll().is("doneCount()", 24).is("doneAt(24)", Run.NONE).is("simulate(1, 500, 7200, 0)", 24);
            run.then("restoreSnapshot(0)", "balance()").answersAll();
            Run around = crowd(runways, (1 << runways) - 1);
            for (int i = 0; i < 12; i++) {
                around.then("advance(100)", "goAround(" + i + ")", "goAround(" + 2 * i + ")");
            }
            around.answersAll();
        }
        crowd(3, 4).answersAll().is("plannedAt(2, 23)", 23).is("plannedAt(2, 24)", Run.NONE).is("balance()", 0);
        Run.begin().answersAll();
    }
}
