/** The edges of promises 49 to 56, 58 and 59: predictions, balance and snapshots. */
final class PredictionEdges {
    private PredictionEdges() {
    }

    static void test() {
        otherShift();
        neededShift();
        otherRunway();
        bestRunway();
        balance();
        balanceLimit();
        aroundCost();
        latestStart();
        latestStartSteps();
        insertRanges();
        insertGaps();
        saving();
        restoring();
    }

    /** Flights of a second's late cost of 1 and then one with 100, all with the target 0 and a second apart. */
    private static String lastFirst(int lights) {
        StringBuilder b = new StringBuilder("runways 1;cost light 0 1;cost heavy 0 100;wake light light 1;"
                + "wake light heavy 1;wake heavy light 1");
        for (int i = 0; i < lights; i++) {
            b.append(";arrival ").append((char) ('a' + i)).append(" light 0 0 999 1");
        }
        return b.append(";arrival x heavy 0 0 999 1").toString();
    }

    private static void otherShift() {
        Edges.promise(49, "shift: 0 to 4; what totalCost() would be; Nothing changes");
        // With SHIFT s the heavy flight is at place 5 - s, and the light ones take the other five places.
        Run run = Run.of(lastFirst(5));
        for (int shift = 0; shift <= 4; shift++) {
            int place = 5 - shift;
            run.predicts("costWithShift(" + shift + ")", 100 * place + 15 - place);
        }
        run.is("shift()", 2).is("totalCost()", 312).refuses("costWithShift(-1)", Run.ARGUMENT)
                .refuses("costWithShift(5)", Run.ARGUMENT);
        Run.begin().predicts("costWithShift(0)", 0).predicts("costWithShift(4)", 0);
        Run.middle().predicts("costWithShift(4)", 102000 + 5000 + 100000);
    }

    private static void neededShift() {
        Edges.promise(50, "Returns 0 to 4");
        for (int lights = 0; lights <= 6; lights++) {
            Run.of(lastFirst(lights)).is("neededShift()", Math.min(4, lights));
        }
        Run.of(lastFirst(2)).predicts("neededShift()", 2);
        Run.begin().predicts("neededShift()", 0);
        Edges.promise(50, "whatever SHIFT is now");
        Run.of(lastFirst(3)).then("setShift(0)").is("neededShift()", 3).then("setShift(4)").is("neededShift()", 3);
    }

    private static void otherRunway() {
        String text = "runways 2;arrival a light 0 0 99 3;arrival b light 0 0 99 2;arrival c light 0 10 99 3";
        Edges.promise(51, "what totalCost() would be");
        Run run = Run.of(text).is("runwayOf(2)", 0).predicts("costIfAssigned(2, 0)", 100000)
                .predicts("costIfAssigned(2, 1)", 100000)
                .predicts("costIfAssigned(0, 0)", 100000).predicts("costIfAssigned(0, 1)", 130000)
                .predicts("totalCost()", 100000);
        Edges.promise(51, "NOT_ALLOWED if it may not use the runway");
        run.refuses("costIfAssigned(1, 0)", Run.NOT_ALLOWED).predicts("costIfAssigned(1, 1)", 100000);
        Edges.promise(51, "WRONG_STATE if the flight is not planned, before NOT_ALLOWED");
        Run.middle().refuses("costIfAssigned(0, 0)", Run.WRONG_STATE).refuses("costIfAssigned(1, 0)", Run.WRONG_STATE)
                .refuses("costIfAssigned(0, 1)", Run.WRONG_STATE).refuses("costIfAssigned(2, 0)", Run.WRONG_STATE)
                .refuses("costIfAssigned(4, 0)", Run.WRONG_STATE).refuses("costIfAssigned(4, 1)", Run.WRONG_STATE);
        Edges.promise(51, "if there is no such flight or runway, before errors");
        Run.middle().refuses("costIfAssigned(5, 0)", Run.INDEX).refuses("costIfAssigned(-1, 0)", Run.INDEX)
                .refuses("costIfAssigned(3, 2)", Run.INDEX).refuses("costIfAssigned(3, -1)", Run.INDEX)
                .refuses("costIfAssigned(0, 2)", Run.INDEX).refuses("costIfAssigned(4, -1)", Run.INDEX);
    }

    private static void bestRunway() {
        Edges.promise(52, "the runway, the smallest of several");
        Run equal = Run.of("runways 3;arrival a light 5 5 99 7").predicts("bestRunway(0)", 0);
        equal.then("assign(0, 2)").predicts("bestRunway(0)", 0).then("assign(0, 1)").predicts("bestRunway(0)", 0);
        Run.of("runways 3;arrival a light 5 5 99 6").then("assign(0, 2)").predicts("bestRunway(0)", 1);
        Run.of("runways 3;arrival a light 5 5 99 4").predicts("bestRunway(0)", 2);
        Run.of("runways 2;arrival a light 5 5 99 1;arrival b light 5 5 99 3").then("assign(1, 0)")
                .predicts("bestRunway(1)", 1)
                .predicts("bestRunway(0)", 0);
        // The total cost is smallest on runway 1, where it is 40 seconds late, not 100 or 70.
        Run three = Run.of("runways 3;shift 0;wake light light 100;wake medium light 40;wake heavy light 70;"
                + "arrival a light 0 0 999 1;arrival b medium 0 0 999 2;arrival c heavy 0 0 999 4;"
                + "arrival x light 0 0 999 7");
        three.then("assign(3, 0)").predicts("bestRunway(3)", 1).then("assign(3, 1)").predicts("bestRunway(3)", 1)
                .then("assign(3, 2)").predicts("bestRunway(3)", 1);
        Edges.promise(52, "WRONG_STATE if the flight is not planned");
        Run.middle().refuses("bestRunway(0)", Run.WRONG_STATE).refuses("bestRunway(1)", Run.WRONG_STATE)
                .refuses("bestRunway(2)", Run.WRONG_STATE).refuses("bestRunway(4)", Run.WRONG_STATE);
        Edges.promise(52, "if there is no such flight");
        Run.middle().refuses("bestRunway(5)", Run.INDEX).refuses("bestRunway(-1)", Run.INDEX);
    }

    private static void balance() {
        Edges.promise(53, "as long as this makes the total cost smaller");
        Run.begin().is("balance()", 0);
        Run.of("runways 1;arrival a light 0 0 99 1;arrival b light 0 0 99 1").is("balance()", 0);
        Run.of("runways 2;arrival a light 0 0 99 1;arrival b light 0 0 99 1").is("balance()", 0);
        // Moving saves nothing if the separation is 0, and a second of it is enough.
        String pair = "runways 2;arrival a light 0 0 99 3;arrival b light 0 0 99 3;wake light light ";
        Run.of(pair + 0).then("assign(1, 0)").is("balance()", 0).is("runwayOf(1)", 0);
        Run.of(pair + 1).then("assign(1, 0)").is("balance()", 1).is("totalCost()", 0).is("balance()", 0);

        Edges.promise(53, "of several the smallest flight, then the smallest runway");
        Run.of(pair + 60).then("assign(1, 0)", "balance()").is("runwayOf(0)", 1).is("runwayOf(1)", 0);
        Run.of("runways 3;arrival a light 0 0 99 7;arrival b light 0 0 99 7").then("assign(1, 0)").is("balance()", 1)
                .is("runwayOf(0)", 1).is("runwayOf(1)", 0);
        Run.of("runways 3;arrival a light 0 0 99 4;arrival b light 0 0 99 7").then("assign(1, 2)").is("balance()", 1)
                .is("runwayOf(1)", 0);
        Edges.promise(53, "the flight and the runway with the smallest total cost are taken");
        // Moving a saves 60 seconds of each of b and c, as moving b or c does; but heavy costs most where it is.
        Run.of("runways 2;shift 0;cost heavy 0 9999;arrival a light 0 0 999 3;arrival b light 0 0 999 3;"
                + "arrival c heavy 0 0 999 3").then("assign(0, 0)", "assign(1, 0)", "assign(2, 0)")
                .is("totalCost()", 1319880)
                .is("balance()", 1).is("runwayOf(2)", 1).is("totalCost()", 120000);
        Edges.promise(53, "planned flights: frozen, done and cancelled ones stay");
        Run.middle().is("balance()", 0);
    }

    private static void balanceLimit() {
        Edges.promise(53, "at most 10 times");
        // n flights on one runway, a second apart: half of them move, one after the other.
        for (int count : new int[] {18, 20, 21, 22}) {
            StringBuilder text = new StringBuilder("runways2;shift0;wake light light1");
            for (int i = 0; i < count; i++) {
                text.append(";arrival ").append((char) ('a' + i)).append(" light0 0 9999 3");
            }
            Run run = Run.begin().unbounded().append(text.toString()).is("load()", count);
            for (int f = 0; f < count; f++) {
                run.then("assign(" + f + ", 0)");
            }
            int half = count / 2;
            run.is("balance()", Math.min(10, half)).is("balance()", half > 10 ? half - 10 : 0).is("balance()", 0);
        }
    }

    private static void aroundCost() {
        Edges.promise(54, "the difference, which may be negative; Nothing changes");
        // a is late by a second and a billion; going around it would be in time again.
        String late = "runways 1;shift 0;freeze 200;arrival x light 0 0 0 1;arrival a light 0 0 59 1";
        Run.of(late).then("advance(1)").is("stateOf(1)", 1).predicts("aroundCost(1)", -1000120000L);
        Run.of(late.replace("0 0 59", "60 60 99")).then("advance(1)").predicts("aroundCost(1)", 0);
        // Its target of 9999 stays: instead of 9939 it is 9398 seconds early.
        Run.of(late.replace("0 0 59", "0 9999 9999")).then("advance(1)").predicts("aroundCost(1)", -541000);
        // It comes back to 601, where b is: b or the flight itself has to wait, b for less.
        Run.of("runways 1;freeze 100;arrival a light 50 50 50 1;arrival b light 601 601 999 1").then("advance(1)")
                .predicts("aroundCost(0)", 120000);
        Edges.promise(54, "WRONG_STATE if the flight is not frozen; NOT_ALLOWED if it is a departure");
        Run.middle().refuses("aroundCost(0)", Run.WRONG_STATE).refuses("aroundCost(3)", Run.WRONG_STATE)
                .refuses("aroundCost(4)", Run.WRONG_STATE).refuses("aroundCost(2)", Run.NOT_ALLOWED);
        Edges.section(6, "WRONG_STATE before NOT_ALLOWED: of aroundCost");
        Run.of("runways 1;departure a light 900 900 900 1").refuses("aroundCost(0)", Run.WRONG_STATE).then("cancel(0)")
                .refuses("aroundCost(0)", Run.WRONG_STATE);
        Run.middle().then("advance(200)").is("stateOf(2)", 2).refuses("aroundCost(2)", Run.WRONG_STATE);
        Edges.promise(54, "if there is no such flight");
        Run.middle().refuses("aroundCost(5)", Run.INDEX).refuses("aroundCost(-1)", Run.INDEX);
    }

    private static void latestStart() {
        Edges.promise(55, "NONE if there is none or the flight is not planned");
        Run.middle().predicts("latestStart(0)", Run.NONE).predicts("latestStart(1)", Run.NONE)
                .predicts("latestStart(2)", Run.NONE).predicts("latestStart(4)", Run.NONE)
                .refuses("latestStart(5)", Run.INDEX).refuses("latestStart(-1)", Run.INDEX);
        Run.of("runways 1;shift 0;arrival a light 0 0 0 1;arrival b light 0 0 59 1")
                .predicts("latestStart(1)", Run.NONE);
        Run.of("runways 1;shift 0;arrival a light 0 0 0 1;arrival b light 0 0 60 1").predicts("latestStart(1)", 60);

        Edges.promise(55, "with which it is not late, held by the flights ahead");
        // Behind x at 0 it is at 60 at least, whatever of 0, 30 and 60 is its earliest time.
        String held = "runways 1;shift 0;arrival x light 0 0 0 1;arrival a light 0 5 ";
        Run.of(held + "89 1").predicts("latestStart(1)", 60);
        Run.of(held + "90 1").predicts("latestStart(1)", 90);
        Run.of(held + "59 1").predicts("latestStart(1)", Run.NONE).then("cancel(0)").predicts("latestStart(1)", 30);

        Edges.promise(55, "the greatest of these times: the plan with each of them is looked at");
        // If a begins at 90, either b behind it is late or a behind b; a costs less, so it is a.
        String chosen = "runways 1;cost light 0 1;cost heavy 0 100;arrival a light 0 0 160 1;arrival b heavy ";
        Run.of(chosen + "110 110 120 1").predicts("latestStart(0)", 60).predicts("latestStart(1)", 110)
                .predicts("latestStart(0)", 60);
        Run.of(chosen + "110 110 119 1").predicts("latestStart(0)", 30);
    }

    private static void latestStartSteps() {
        Edges.promise(55, "plus 0, 30, 60, ... and 900 seconds is tried");
        Run.of("runways 1;arrival a light 7 7 99999 1").predicts("latestStart(0)", 907).is("earliest(0)", 7);
        Run.of("runways 1;arrival a light 99999 99999 99999 1").predicts("latestStart(0)", 99999);
        Edges.promise(55, "as far as that is not after its latest time");
        String alone = "runways 1;arrival a light 7 7 ";
        int[][] want = {{7, 7}, {36, 7}, {37, 37}, {38, 37}, {906, 877}, {907, 907}, {936, 907}, {937, 907}};
        for (int[] pair : want) {
            Run.of(alone + pair[0] + " 1").predicts("latestStart(0)", pair[1]);
        }
        Edges.promise(55, "if its target and latest time stayed as they are");
        // With its target of 10 it stays ahead of b; at 900 b would be ahead of it if the target moved as well.
        Run.of("runways 1;shift 0;wake light light 100;arrival a light 0 10 930 1;arrival b light 0 500 9999 1")
                .predicts("latestStart(0)", 900).is("target(0)", 10).is("latest(0)", 930);
    }

    private static void insertRanges() {
        Edges.promise(56, "cls: 0 to 3; earliest: 0 to 200000; a runway");
        Run run = Run.middle();
        run.predicts("timeInserted(0, 200000, 0)", 200000).predicts("timeInserted(3, 30, 1)", 30)
                .predicts("timeInserted(3, 31, 1)", 150);
        run.refuses("timeInserted(-1, 0, 0)", Run.ARGUMENT).refuses("timeInserted(4, 0, 0)", Run.ARGUMENT)
                .refuses("timeInserted(0, -1, 0)", Run.ARGUMENT).refuses("timeInserted(0, 200001, 0)", Run.ARGUMENT)
                .refuses("timeInserted(0, 0, -1)", Run.INDEX).refuses("timeInserted(0, 0, 2)", Run.INDEX);
        Edges.section(6, "If several exceptions apply, the one that is named first is thrown");
        run.refuses("timeInserted(4, 0, 2)", Run.INDEX).refuses("timeInserted(0, 200001, 2)", Run.INDEX)
                .refuses("timeInserted(-1, -1, -1)", Run.INDEX);
        Edges.promise(56, "at least the present time and earliest");
        Run.begin().predicts("timeInserted(0, 0, 0)", 0).predicts("timeInserted(0, 5, 0)", 5).then("advance(6)")
                .predicts("timeInserted(0, 5, 0)", 6).predicts("timeInserted(0, 7, 0)", 7);
    }

    private static void insertGaps() {
        Edges.promise(56, "the separations from all flights there must be kept, in both directions");
        // A heavy arrival needs 70 behind a, which is light, and 100 ahead of b, so 170 between both are just enough.
        String text = "runways 2;shift 0;wake light heavy 70;wake heavy light 100;arrival a light 200 200 9999 1;"
                + "arrival b light ";
        Run.of(text + "370 370 9999 1").predicts("timeInserted(1, 101, 0)", 270)
                .predicts("timeInserted(1, 100, 0)", 100)
                .predicts("timeInserted(1, 270, 0)", 270).predicts("timeInserted(1, 271, 0)", 440);
        Run.of(text + "369 369 9999 1").predicts("timeInserted(1, 101, 0)", 439).predicts("timeInserted(1, 0, 1)", 0);
        Edges.promise(56, "one more arrival: departures are kept away by mixed");
        String departure = "runways 1;mixed 5;wake heavy heavy 600;departure a heavy 200 200 999 1";
        Run.of(departure).predicts("timeInserted(1, 195, 0)", 195).predicts("timeInserted(1, 196, 0)", 205);
        Edges.promise(56, "planned, frozen or done there; cancelled ones do not count");
        String all = "runways 1;shift 0;freeze 60;arrival a light 0 0 99 1;arrival b light 0 0 99 1;"
                + "arrival c light 0 0 999 1";
        Run run = Run.of(all).then("advance(1)").is("stateOf(0)", 2).is("stateOf(1)", 1).is("stateOf(2)", 0);
        run.predicts("timeInserted(3, 0, 0)", 180).then("cancel(2)").predicts("timeInserted(3, 0, 0)", 120)
                .then("goAround(1)").predicts("timeInserted(3, 0, 0)", 60);
        Edges.promise(56, "beyond 200000 if it must be");
        SimulationEdges.atTheEnd(3299).is("timeOf(0)", 200471).then("setWake(3, 3, 471)")
                .predicts("timeInserted(3, 200000, 0)", 200000).then("setWake(3, 3, 472)")
                .predicts("timeInserted(3, 200000, 0)", 200943).predicts("timeInserted(3, 0, 0)", 200943);
    }

    private static void saving() {
        Edges.promise(58, "slot: 0 or 1; Returns the present time");
        Run.middle().is("saveSnapshot(0)", 10).is("saveSnapshot(1)", 10).refuses("saveSnapshot(-1)", Run.ARGUMENT)
                .refuses("saveSnapshot(2)", Run.ARGUMENT).refuses("saveSnapshot(2147483647)", Run.ARGUMENT)
                .refuses("saveSnapshot(-2147483648)", Run.ARGUMENT);
        Edges.promise(58, "everything except the input buffer, the result of the latest load and the snapshots");
        Run run = Run.middle().then("saveSnapshot(0)", "find()").append("runways 3").then("load()").append("ab")
                .is("restoreSnapshot(0)", 10).is("loadError()", 0).is("find()", 1);
        run.is("restoreSnapshot(1)", 4);
        Edges.promise(58, "a later one in the same slot counts, the other slot stays");
        Run.middle().then("advance(5)").is("saveSnapshot(1)", 15).then("advance(5)").is("restoreSnapshot(1)", 15)
                .is("restoreSnapshot(0)", 0).is("restoreSnapshot(1)", 15);
    }

    private static void restoring() {
        Edges.promise(59, "NONE if nothing was saved there");
        Run.begin().refuses("restoreSnapshot(0)", Run.NONE).refuses("restoreSnapshot(1)", Run.NONE);
        Run.of("runways 2;arrival a light 9 9 9 1").then("saveSnapshot(0)").refuses("restoreSnapshot(1)", Run.NONE);
        Run.of("runways 2;arrival a light 9 9 9 1").then("saveSnapshot(1)").refuses("restoreSnapshot(0)", Run.NONE);
        Edges.promise(59, "slot: 0 or 1");
        Run.middle().refuses("restoreSnapshot(-1)", Run.ARGUMENT).refuses("restoreSnapshot(2)", Run.ARGUMENT);

        Edges.promise(59, "Replaces everything");
        Run changed = Run.middle().then("saveSnapshot(0)", "saveSnapshot(1)", "goAround(1)", "setShift(0)",
                "setWake(3, 3, 5)", "cancel(3)", "advance(700)", "balance()", "restoreSnapshot(0)");
        changed.isLike(Run.middle().then("saveSnapshot(0)", "saveSnapshot(1)"));
        Run other = Run.middle().then("saveSnapshot(0)", "saveSnapshot(1)", "find()")
                .append("runways 3;mixed 1;freeze 0;around 99;cost light 1 1;arrival z super 5 6 7 4");
        other.then("load()", "advance(50)", "restoreSnapshot(1)").isLike(Run.middle()
                .then("saveSnapshot(0)", "saveSnapshot(1)"));
        Run done = Run.of("runways 3;arrival a light 8 8 8 1;arrival b light 7 7 7 2;arrival c light 6 6 6 4")
                .then("advance(9)", "saveSnapshot(0)")
                .append("runways 3;arrival a light 6 6 6 4;arrival b light 7 7 7 2;arrival c light 8 8 8 1")
                .then("load()", "advance(9)").is("doneAt(0)", 0).is("restoreSnapshot(0)", 9).is("doneCount()", 3);
        done.is("doneAt(0)", 2).is("doneAt(1)", 1).is("doneAt(2)", 0).is("timeOf(2)", 6).is("runwayOf(2)", 2);
        // From 150 on the smaller number is ahead, also if a text with much later flights was read in between.
        Run.of("runways 1;freeze 0;cost light 1 2;arrival b light 0 250 999 1;arrival a light 240 240 999 1")
                .then("saveSnapshot(1)").append("runways 1;arrival z light 9000 9000 9000 1").then("load()")
                .is("timeOf(0)", 9000).then("restoreSnapshot(1)").is("timeOf(0)", 300).then("advance(150)")
                .is("stateOf(0)", 1).is("timeOf(0)", 150);
        Edges.promise(59, "by a copy of a snapshot, which stays");
        Run.middle().is("restoreSnapshot(1)", 4).then("cancel(3)", "setWake(0, 0, 1)", "advance(99)", "goAround(1)")
                .is("restoreSnapshot(1)", 4).is("stateOf(3)", 0).is("wake(0, 0)", 60).is("stateOf(1)", 1)
                .is("doneCount()", 1);
    }
}
