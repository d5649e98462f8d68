/** The edges of section 4 and of promises 17, 18, 25 and 45 to 48: freezing, being done, going around, and the end. */
final class TimeEdges {
    private TimeEdges() {
    }

    static void test() {
        seconds();
        end();
        freezing();
        freezeChain();
        anew();
        done();
        doneOrder();
        timeAlone();
        goingAround();
        aroundTimes();
        aroundErrors();
        history();
    }

    /** At second 200000 less the seconds that are left. */
    private static Run near(String text, int left) {
        Run run = Run.of(text);
        int rest = 200000 - left;
        while (rest > 0) {
            run.then("advance(" + Math.min(7200, rest) + ")");
            rest -= 7200;
        }
        return run.is("now()", 200000 - left);
    }

    private static void seconds() {
        Edges.promise(18, "seconds: 1 to 7200");
        Run.middle().is("advance(1)", 0).is("now()", 11);
        Run.middle().is("advance(7200)", 3).is("now()", 7210);
        Run.middle().refuses("advance(0)", Run.ARGUMENT).refuses("advance(-1)", Run.ARGUMENT)
                .refuses("advance(7201)", Run.ARGUMENT).refuses("advance(2147483647)", Run.ARGUMENT)
                .refuses("advance(-2147483648)", Run.ARGUMENT);
        Edges.promise(18, "Returns the number of flights that became done");
        Run.begin().is("advance(1)", 0).is("advance(7200)", 0);
        Run.of("runways 1;shift 0;arrival a light 0 0 0 1;arrival b light 0 0 99 1;departure c light 0 0 999 1")
                .is("advance(59)", 1).is("advance(61)", 2).is("advance(61)", 0);
    }

    private static void end() {
        String late = "runways 1;arrival a light 0 0 0 1";
        Edges.promise(17, "the second, 0 to 200000");
        Run.of(late).is("now()", 0);
        near(late, 0).is("now()", 200000);

        Edges.promise(18, "FULL if the time would be greater than 200000");
        near(late, 0).refuses("advance(1)", Run.FULL).refuses("advance(7200)", Run.FULL);
        near(late, 1).refuses("advance(2)", Run.FULL).is("advance(1)", 0).is("now()", 200000);
        near(late, 7199).refuses("advance(7200)", Run.FULL).is("advance(7199)", 0).is("now()", 200000);
        near(late, 7200).is("advance(7200)", 0).is("now()", 200000);

        Edges.section(6, "exceptions come before errors: of advance");
        near(late, 0).refuses("advance(0)", Run.ARGUMENT).refuses("advance(7201)", Run.ARGUMENT)
                .refuses("advance(2147483647)", Run.ARGUMENT);
    }

    private static void freezing() {
        Edges.section(4, "a time of at most the present time plus FREEZE");
        for (int freeze : new int[] {0, 1, 60, 1800}) {
            Run run = Run.of("runways 1;freeze " + freeze + ";arrival a light 2000 2000 2000 1");
            run.then("advance(" + (1999 - freeze) + ")").is("stateOf(0)", 0).then("advance(1)").is("stateOf(0)", 1)
                    .is("timeOf(0)", 2000).is("placeOf(0)", Run.NONE);
        }
        Edges.section(4, "frozen at the present time at which the passing of time begins");
        // It is planned at 0 with the time 0: time must pass for it to be frozen, and then it is done as well.
        Run.of("runways 1;freeze 0;arrival a light 0 0 0 1").is("stateOf(0)", 0).is("timeOf(0)", 0).is("advance(1)", 1);

        Edges.section(4, "becomes frozen with that time");
        // At 0 the plan is b, a; once b is frozen nothing can be put ahead of it any more.
        Run run = Run.of("runways 2;freeze 50;arrival b light 40 40 99 1;arrival a light 0 41 999 3")
                .then("assign(1, 1)");
        run.then("advance(1)").is("stateOf(0)", 1).is("timeOf(0)", 40);
        Edges.section(4, "A frozen flight stays frozen until it is done or goes around");
        run.then("setWake(3, 3, 600)", "setShift(0)").is("stateOf(0)", 1).is("timeOf(0)", 40);
        run.refuses("cancel(0)", Run.WRONG_STATE).refuses("assign(0, 0)", Run.WRONG_STATE).then("advance(38)")
                .is("stateOf(0)", 1).then("advance(1)").is("stateOf(0)", 2);
    }

    private static void freezeChain() {
        Edges.section(4, "as long as the first flight of its plan has such a time");
        String three = ";shift 0;arrival a light 0 0 999 1;arrival b light 0 0 999 1;arrival c light 0 0 999 1";
        Run.of("runways 1;freeze 119" + three).then("advance(1)").is("stateOf(1)", 1).is("stateOf(2)", 1);
        Run.of("runways 1;freeze 118" + three).then("advance(1)").is("stateOf(1)", 1).is("stateOf(2)", 0)
                .then("advance(1)").is("stateOf(2)", 1);
        StringBuilder all = new StringBuilder("runways 1;freeze 1800;wake light light 0");
        for (int i = 0; i < 24; i++) {
            all.append(";arrival ").append((char) ('a' + i)).append(" light 1801 1801 1801 1");
        }
        Run crowd = Run.begin().unbounded().append(all.toString()).is("load()", 24).is("advance(1)", 0);
        crowd.is("stateOf(0)", 1).is("stateOf(22)", 1).is("stateOf(23)", 1).is("advance(1800)", 24)
                .is("doneAt(23)", 23);
        Edges.section(4, "For each runway");
        Run.of("runways 3;freeze 9;arrival a light 10 10 10 1;arrival b light 10 10 10 2;arrival c light 10 10 10 4")
                .then("advance(1)").is("stateOf(0)", 1).is("stateOf(1)", 1).is("stateOf(2)", 1);
        Run.of("runways 3;freeze 9;arrival a light 11 11 11 1;arrival b light 10 10 10 2;arrival c light 11 11 11 4")
                .then("advance(1)").is("stateOf(0)", 0).is("stateOf(1)", 1).is("stateOf(2)", 0);
    }

    private static void anew() {
        Edges.section(4, "and the plan is made anew");
        // x is behind the window of 7 until a is frozen; then it may leave its place 6 for place 2.
        StringBuilder text = new StringBuilder("runways 1;shift 4;freeze 0;cost light 0 1;cost heavy 0 9999");
        for (int i = 0; i < 7; i++) {
            text.append(";arrival ").append((char) ('a' + i)).append(" light 0 0 9999 1");
        }
        Run.of(text + ";arrival x heavy 0 1 9999 1").is("plannedAt(0, 7)", 7).then("advance(1)")
                .is("plannedAt(0, 2)", 7)
                .is("plannedAt(0, 0)", 1).is("timeOf(7)", 180);

        Edges.section(4, "the smallest time of the first flight of a plan minus FREEZE");
        // One long advance freezes the flights one by one at their own stops, as many short ones do.
        String five = "runways 2;freeze 10;arrival a light 30 200 900 1;arrival b heavy 0 210 900 1;"
                + "arrival c light 70 220 900 1;"
                + "arrival d light 50 90 900 2;arrival e heavy 95 100 900 2";
        Run stops = Run.of(five).then("advance(300)");
        stops.is("doneCount()", 5);
        Run.of(five).then("advance(20)", "advance(280)").isLike(stops);
    }

    private static void done() {
        Edges.section(4, "whose time is at most the present time becomes done");
        Run at = Run.of("runways 1;freeze 5;arrival a light 10 10 10 1");
        at.is("advance(9)", 0).is("stateOf(0)", 1).is("advance(1)", 1).is("stateOf(0)", 2).is("timeOf(0)", 10)
                .is("doneAt(0)", 0);
        Run.of("runways 1;freeze 5;arrival a light 10 10 10 1").is("advance(10)", 1);

        Edges.section(4, "If the present time is the later time, this is all: frozen just now, done the next time");
        Run.of("runways 1;freeze 0;arrival a light 10 10 10 1").is("advance(10)", 0).is("stateOf(0)", 1)
                .is("timeOf(0)", 10)
                .is("doneCount()", 0).is("advance(1)", 1).is("stateOf(0)", 2);
        Run.of("runways 1;freeze 0;arrival a light 10 10 10 1").is("advance(11)", 1);
    }

    private static void doneOrder() {
        Edges.section(4, "in the order of their times");
        Run.of("runways 3;freeze 99;arrival a light 12 12 12 1;arrival b light 11 11 11 2;arrival c light 10 10 10 4")
                .is("advance(50)", 3).is("doneAt(0)", 2).is("doneAt(1)", 1).is("doneAt(2)", 0);
        Edges.section(4, "of equal times the smaller number first");
        Run.of("runways 3;freeze 99;arrival a light 10 10 10 4;arrival b light 10 10 10 2;arrival c light 10 10 10 1")
                .is("advance(50)", 3).is("doneAt(0)", 0).is("doneAt(1)", 1).is("doneAt(2)", 2);
        Run.of("runways 3;freeze 99;arrival a light 11 11 11 4;arrival b light 10 10 10 2;arrival c light 10 10 10 1")
                .is("advance(10)", 2).is("doneAt(0)", 1).is("doneAt(1)", 2).is("doneAt(2)", Run.NONE);
    }

    private static void timeAlone() {
        Edges.section(4, "the plan of the present time: time alone may change it");
        // First come is 1 at 240, and 0 behind it is 50 late; with 0 ahead, at the present time t, it is 250 - t early.
        String text = "runways 1;freeze 0;cost light 1 1;arrival b light 0 250 999 1;arrival a light 240 240 999 1";
        Run.of(text).then("advance(179)").is("plannedAt(0, 0)", 1).is("timeOf(0)", 300).is("totalCost()", 50);
        // With twice the cost of being late both sequences cost 100 at 150, and the smaller number goes first.
        Run.of(text + ";cost light 1 2").then("advance(149)").is("plannedAt(0, 0)", 1).is("totalCost()", 100);
        Run.of(text + ";cost light 1 2").then("advance(150)").is("stateOf(0)", 1).is("timeOf(0)", 150);

        Edges.section(4, "the first second that changes a plan is the one behind an earliest time");
        // With 1 ahead, 0 at 199 costs 99; with 0 ahead at the present time t it costs 100 - t: the same at second 1.
        String equal = "runways 1;freeze 0;wake heavy light 0;wake light heavy 149;cost heavy 1 1;cost light 0 1;"
                + "arrival a heavy 0 100 9999 1;arrival b light 50 50 9999 1";
        Run.of(equal).is("plannedAt(0, 0)", 1).is("timeOf(0)", 199).is("totalCost()", 99).is("advance(1)", 0)
                .is("stateOf(0)", 1).is("timeOf(0)", 1).is("timeOf(1)", 50).is("totalCost()", 99);
    }

    private static void goingAround() {
        Edges.promise(25, "Returns its new earliest time; it is planned again on the same runway");
        Run run = Run.of("runways 2;around 60;freeze 99;arrival a light 50 50 50 1;arrival b light 55 55 200 1")
                .then("advance(10)").is("stateOf(0)", 1).is("stateOf(1)", 0);
        run.is("goAround(0)", 70).is("stateOf(0)", 0).is("runwayOf(0)", 0).is("earliest(0)", 70)
                .is("aroundCount(0)", 1);

        Edges.section(4, "planned until time passes, even if FREEZE is longer than AROUND");
        Run soon = Run.of("runways 1;around 60;freeze 1800;arrival a light 50 50 50 1").then("advance(10)");
        soon.is("goAround(0)", 70).is("stateOf(0)", 0).is("goAround(0)", Run.WRONG_STATE).then("advance(1)")
                .is("stateOf(0)", 1).is("timeOf(0)", 70).is("goAround(0)", 71).is("aroundCount(0)", 2);

        Edges.section(4, "around at the last moment: frozen with the present time, not done yet");
        Run last = Run.of("runways 1;freeze 0;arrival a light 10 10 10 1").then("advance(10)").is("stateOf(0)", 1);
        last.is("goAround(0)", 610).is("timeOf(0)", 610).is("isLate(0)", false).is("delay(0)", 0);

        Edges.section(4, "frozen flights that stay hold it; it holds none of them");
        Run held = Run.of("runways 1;shift 0;around 60;freeze 200;arrival a light 10 10 10 1;"
                + "arrival b light 10 11 500 1")
                .then("advance(1)").is("timeOf(1)", 70).is("goAround(0)", 61).is("timeOf(1)", 70).is("timeOf(0)", 130);
        held.is("binding(0)", 1);
    }

    private static void aroundTimes() {
        Edges.section(4, "its target becomes the earliest time if it is smaller");
        String text = "runways 1;around 60;freeze 1800;arrival a light 50 ";
        String[] before = {"69 900 1", "70 900 1", "71 900 1"};
        int[] target = {70, 70, 71};
        for (int i = 0; i < 3; i++) {
            Run.of(text + before[i]).then("advance(10)").is("goAround(0)", 70).is("target(0)", target[i])
                    .is("latest(0)", 900);
        }
        Edges.section(4, "its latest time becomes the target if it is smaller");
        String[] latest = {"60 69 1", "60 70 1", "60 71 1", "71 71 1", "69 70 1"};
        int[] want = {70, 70, 71, 71, 70};
        for (int i = 0; i < latest.length; i++) {
            Run.of(text + latest[i]).then("advance(10)", "goAround(0)").is("latest(0)", want[i]);
        }
    }

    private static void aroundErrors() {
        Edges.promise(25, "WRONG_STATE if the flight is not frozen");
        Run.middle().refuses("goAround(0)", Run.WRONG_STATE).refuses("goAround(3)", Run.WRONG_STATE)
                .refuses("goAround(4)", Run.WRONG_STATE);
        Edges.promise(25, "NOT_ALLOWED if it is a departure");
        Run.middle().refuses("goAround(2)", Run.NOT_ALLOWED).is("goAround(1)", 610);
        Edges.section(6, "WRONG_STATE before NOT_ALLOWED: of goAround");
        Run.middle().then("advance(300)").is("stateOf(2)", 2).refuses("goAround(2)", Run.WRONG_STATE);
        Run departure = Run.of("runways 1;departure a light 900 900 900 1").refuses("goAround(0)", Run.WRONG_STATE);
        departure.then("cancel(0)").refuses("goAround(0)", Run.WRONG_STATE);
        Edges.promise(25, "if there is no such flight");
        Run.middle().refuses("goAround(5)", Run.INDEX).refuses("goAround(-1)", Run.INDEX);
    }

    private static void history() {
        Edges.promise(45, "Returns the number of done flights");
        Run.begin().is("doneCount()", 0);
        Run.middle().is("doneCount()", 1).then("advance(49)").is("doneCount()", 1).then("advance(1)")
                .is("doneCount()", 2);

        Edges.promise(46, "NONE if there is no such index");
        Run.begin().is("doneAt(0)", Run.NONE).is("doneAt(-1)", Run.NONE);
        Run.middle().is("doneAt(0)", 0).is("doneAt(1)", Run.NONE).is("doneAt(-1)", Run.NONE).is("doneAt(24)", Run.NONE)
                .is("doneAt(2147483647)", Run.NONE).is("doneAt(-2147483648)", Run.NONE);

        Edges.promise(47, "how often a flight has gone around; if there is no such flight");
        Run.middle().is("aroundCount(1)", 0).then("goAround(1)").is("aroundCount(1)", 1).is("aroundCount(0)", 0)
                .then("cancel(1)").is("aroundCount(1)", 1).refuses("aroundCount(5)", Run.INDEX)
                .refuses("aroundCount(-1)", Run.INDEX);

        Edges.promise(48, "whether no flight has gone around since the beginning");
        Run.begin().is("isSmooth()", true);
        Run around = Run.middle().is("isSmooth()", true).then("goAround(2)", "goAround(0)").is("isSmooth()", true)
                .then("goAround(1)").is("isSmooth()", false);
        around.then("advance(2000)").is("stateOf(1)", 2).is("isSmooth()", false);
        around.then("restoreSnapshot(0)").is("isSmooth()", true);
        String two = "runways 1;shift 0;freeze 99;arrival a light 5 5 5 1;arrival b light 5 5 99 1";
        Run.of(two).then("advance(1)", "goAround(0)").is("isSmooth()", false);
        Run.of(two).then("advance(1)", "goAround(1)").is("isSmooth()", false)
                .append("runways 1;arrival c light 5 5 5 1")
                .then("load()").is("isSmooth()", true).is("aroundCount(0)", 0);
    }
}
