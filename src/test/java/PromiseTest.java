/** For each promise: ordinary calls, the edges that the document names, and wrong inputs, worked out by hand. */
public final class PromiseTest {
    private static int wrong = 0;
    private static int promise = 0;

    /** The flights a, b and c are in this order by target; the best sequence is b, a, c at 0, 60 and 120. */
    private static final String THREE = "runways 1;wake heavy light 120;wake heavy medium 90;"
            + "arrival a heavy 0 100 500 1;arrival b light 0 110 400 1;departure c medium 0 120 900 1";

    private interface Call {
        void run();
    }

    private static void due(String call, double got, double want) {
        if (got != want) {
            wrong++;
            System.out.println("promise " + promise + ": " + call + " answered " + got + ", due is " + want);
        }
    }

    private static void due(String call, boolean got, boolean want) {
        due(call, got ? 1 : 0, want ? 1 : 0);
    }

    private static void dueThrow(String call, Class<?> want, Call c) {
        Class<?> got = null;
        try {
            c.run();
        } catch (RuntimeException e) {
            got = e.getClass();
        }
        if (got != want) {
            wrong++;
            System.out.println("promise " + promise + ": " + call + " threw " + got + ", due is " + want);
        }
    }

    private static void dueArgument(String call, Call c) {
        dueThrow(call, IllegalArgumentException.class, c);
    }

    private static void dueIndex(String call, Call c) {
        dueThrow(call, IndexOutOfBoundsException.class, c);
    }

    private static void append(RunwaySequencer x, String text) {
        for (int i = 0; i < text.length(); i++) {
            x.appendByte(text.charAt(i));
        }
    }

    private static int loaded(RunwaySequencer x, String text) {
        append(x, text);
        return x.load();
    }

    private static RunwaySequencer of(String text) {
        RunwaySequencer x = new RunwaySequencer();
        if (loaded(x, text) < 0) {
            wrong++;
            System.out.println("promise " + promise + ": a right text is refused: " + text);
        }
        return x;
    }

    private static void dueError(String text, int kind, int position) {
        RunwaySequencer x = new RunwaySequencer();
        due("load() of \"" + text + "\"", loaded(x, text), -100 - position);
        due("loadError() of \"" + text + "\"", x.loadError(), kind);
    }

    public static void main(String[] args) {
        begin();
        reading();
        errors();
        flights();
        separations();
        time();
        settings();
        changes();
        places();
        costs();
        counts();
        gaps();
        history();
        shifts();
        runways();
        predictions();
        simulations();
        snapshots();
        System.out.println(wrong == 0 ? "all promises hold" : wrong + " answers are not as due");
        if (wrong != 0) {
            System.exit(1);
        }
    }

    private static void begin() {
        promise = 1;
        RunwaySequencer x = new RunwaySequencer();
        due("runwayCount()", x.runwayCount(), 1);
        due("flightCount()", x.flightCount(), 0);
        due("now()", x.now(), 0);
        due("shift()", x.shift(), 2);
        due("restoreSnapshot(0)", x.restoreSnapshot(0), RunwaySequencer.NONE);
        due("restoreSnapshot(1)", x.restoreSnapshot(1), RunwaySequencer.NONE);
        due("appendByte('q')", x.appendByte('q'), 1);
        due("advance(5) without flights", x.advance(5), 0);

        promise = 2;
        RunwaySequencer y = new RunwaySequencer();
        due("appendByte(0)", y.appendByte(0), 1);
        due("appendByte(255)", y.appendByte(255), 2);
        dueArgument("appendByte(-1)", () -> y.appendByte(-1));
        dueArgument("appendByte(256)", () -> y.appendByte(256));
        for (int i = 3; i <= 900; i++) {
            due("appendByte('a')", y.appendByte('a'), i);
        }
        due("appendByte('a') on 900", y.appendByte('a'), RunwaySequencer.FULL);
        dueArgument("appendByte(256) on 900", () -> y.appendByte(256));
        due("load() of 900", y.load(), -100);
        due("appendByte('a') behind", y.appendByte('a'), 1);
    }

    private static void reading() {
        promise = 3;
        RunwaySequencer x = of("  runways2 ;shift 1; shift  3;freeze 0 ;around3600;mixed 0;cost light 0 9999;"
                + "wake super light600;departure wake light0 5 00007 3;arrival heavy heavy 1 1 99999 2  ");
        due("flightCount()", x.flightCount(), 2);
        due("shift()", x.shift(), 3);
        due("wake(0, 3)", x.wake(0, 3), 600);
        due("latest(0)", x.latest(0), 7);
        due("runwayCount()", x.runwayCount(), 2);
        due("separation(0, 1)", x.separation(0, 1), 0);
        due("runwayOf(1)", x.runwayOf(1), 1);
        due("advance(100)", x.advance(100), 2);
        x.saveSnapshot(1);
        due("load() of a wrong text", loaded(x, "runways 1;runways 2"), -110);
        due("now() stays", x.now(), 100);
        due("flightCount() stays", x.flightCount(), 2);
        due("the buffer is empty", x.appendByte('r'), 1);
        due("load() of a right text", loaded(x, "unways 3"), 0);
        due("now() begins anew", x.now(), 0);
        due("doneCount() begins anew", x.doneCount(), 0);
        due("shift() begins anew", x.shift(), 2);
        due("wake(0, 3) begins anew", x.wake(0, 3), 60);
        due("the snapshot stays", x.restoreSnapshot(1), 100);
        due("flightCount() of it", x.flightCount(), 2);

        RunwaySequencer deal = of("runways 3;arrival a light 0 50 99 7;arrival b light 0 50 99 7;"
                + "arrival c light 0 40 99 6;arrival d light 0 60 99 3;arrival e light 0 70 99 7");
        int[] want = {0, 2, 1, 0, 1};
        for (int f = 0; f < 5; f++) {
            due("runwayOf(" + f + ")", deal.runwayOf(f), want[f]);
            due("stateOf(" + f + ")", deal.stateOf(f), 0);
        }

        promise = 4;
        due("loadError() before a load", new RunwaySequencer().loadError(), 0);
        RunwaySequencer y = new RunwaySequencer();
        loaded(y, "runways 9");
        due("loadError()", y.loadError(), 2);
        y.saveSnapshot(0);
        loaded(y, "runways 2");
        due("loadError() of a right text", y.loadError(), 0);
        y.restoreSnapshot(0);
        due("loadError() behind a snapshot", y.loadError(), 0);

        promise = 5;
        RunwaySequencer z = of("runways 1;arrival abc light 0 0 0 1;arrival ab light 0 0 0 1;"
                + "arrival abcdef light 0 0 0 1");
        append(z, "ab");
        due("find() of ab", z.find(), 1);
        due("find() of nothing", z.find(), RunwaySequencer.NONE);
        append(z, "abcdef");
        due("find() of abcdef", z.find(), 2);
        append(z, "abcdefg");
        due("find() of abcdefg", z.find(), RunwaySequencer.NONE);
        append(z, "ab ");
        due("find() with a space", z.find(), RunwaySequencer.NONE);
        due("the buffer is empty", z.appendByte(' '), 1);
        append(z, "ab");
        due("find() behind a space", z.find(), RunwaySequencer.NONE);
        append(z, "abd");
        due("find() of abd", z.find(), RunwaySequencer.NONE);
    }

    private static void errors() {
        promise = 4;
        dueError("", 1, 0);
        dueError("   ", 1, 3);
        dueError("runways", 1, 7);
        dueError("runways ;", 1, 8);
        dueError("runways 0", 2, 8);
        dueError("runways 99999999999999999999", 2, 8);
        dueError("runways 1;", 1, 10);
        dueError("runways 1; ", 1, 11);
        dueError("runways 1;;shift 1", 1, 10);
        dueError("runways 1 2", 1, 10);
        dueError("runways 1 shift 2", 1, 10);
        dueError("runwaysx 1", 1, 0);
        dueError("Runways 1", 1, 0);
        dueError("runways\t1", 1, 7);
        dueError("runways 1;shift 5", 2, 16);
        dueError("runways 1;shift x", 1, 16);
        dueError("runways 1;freeze 1801", 2, 17);
        dueError("runways 1;around 59", 2, 17);
        dueError("runways 1;around 3601", 2, 17);
        dueError("runways 1;mixed 601", 2, 16);
        dueError("runways 1;cost light 10000 0", 2, 21);
        dueError("runways 1;cost light 0 10000", 2, 23);
        dueError("runways 1;wake light lights 0", 1, 21);
        dueError("runways 1;wake light light 601", 2, 27);
        dueError("runways 1;wakelight light 60", 1, 10);
        dueError("runways 1;wake 5", 1, 15);
        dueError("runways 1;wake light 5 5", 1, 21);
        dueError("runways 1;cost 5 5 5", 1, 15);
        dueError("runways 1;cost light x 5", 1, 21);
        dueError("runways 1;cost light 5 x", 1, 23);
        dueError("runways 1;arrival a 5 5 5 1", 1, 20);
        dueError("runways 1;arrival a light 5 5 5 x", 1, 32);
        dueError("runways 1;arrival abcdefg light 0 0 0 1", 1, 18);
        dueError("runways 1;arrival 7 light 0 0 0 1", 1, 18);
        dueError("runways 1;arrival a light 100000 0 0 1", 2, 26);
        dueError("runways 1;arrival a light 9 8 9 1", 2, 28);
        dueError("runways 1;arrival a light 9 9 8 1", 2, 30);
        dueError("runways 1;arrival a light 9 9 9 0", 2, 32);
        dueError("runways 1;arrival a light 9 9 9 2", 2, 32);
        dueError("runways 2;arrival a light 9 9 9 4", 2, 32);
        dueError("runways 3;arrival a light 9 9 9 8", 2, 32);
        dueError("runways 1;arrival a light 9 9 9", 1, 31);
        dueError("runways 1;arrival a light 0 0 0 1;departure a heavyy 0 0 0 1", 3, 44);
        StringBuilder many = new StringBuilder("runways 1");
        for (int i = 0; i < 24; i++) {
            many.append(";arrival ").append((char) ('a' + i)).append(" light 0 0 0 1");
        }
        RunwaySequencer x = of(many.toString());
        due("flightCount() of 24", x.flightCount(), 24);
        int length = many.length();
        dueError(many + ";departure a", 4, length + 1);
        dueError(many + ";depart", 1, length + 1);
    }

    private static void flights() {
        RunwaySequencer x = of("runways 3;departure abcdef super 1 20 300 7;arrival b light 4 4 4 1");
        promise = 6;
        due("runwayCount()", x.runwayCount(), 3);
        promise = 7;
        due("flightCount()", x.flightCount(), 2);
        x.cancel(0);
        due("flightCount() with a cancelled one", x.flightCount(), 2);
        promise = 8;
        due("nameByte(0, 0)", x.nameByte(0, 0), 'a');
        due("nameByte(0, 5)", x.nameByte(0, 5), 'f');
        due("nameByte(0, 6)", x.nameByte(0, 6), RunwaySequencer.NONE);
        due("nameByte(1, 1)", x.nameByte(1, 1), RunwaySequencer.NONE);
        due("nameByte(1, -1)", x.nameByte(1, -1), RunwaySequencer.NONE);
        dueIndex("nameByte(2, 0)", () -> x.nameByte(2, 0));
        dueIndex("nameByte(-1, 0)", () -> x.nameByte(-1, 0));
        promise = 9;
        due("isArrival(0)", x.isArrival(0), false);
        due("isArrival(1)", x.isArrival(1), true);
        dueIndex("isArrival(2)", () -> x.isArrival(2));
        promise = 10;
        due("classOf(0)", x.classOf(0), 0);
        due("classOf(1)", x.classOf(1), 3);
        dueIndex("classOf(-1)", () -> x.classOf(-1));
        promise = 11;
        due("earliest(0)", x.earliest(0), 1);
        dueIndex("earliest(2)", () -> x.earliest(2));
        promise = 12;
        due("target(0)", x.target(0), 20);
        dueIndex("target(2)", () -> x.target(2));
        promise = 13;
        due("latest(0)", x.latest(0), 300);
        dueIndex("latest(24)", () -> x.latest(24));
    }

    private static void separations() {
        RunwaySequencer x = of(THREE + ";mixed 33;wake heavy light 200");
        promise = 14;
        due("wake(1, 3)", x.wake(1, 3), 200);
        due("wake(3, 1)", x.wake(3, 1), 60);
        dueArgument("wake(-1, 0)", () -> x.wake(-1, 0));
        dueArgument("wake(0, 4)", () -> x.wake(0, 4));
        promise = 15;
        due("separation(0, 1)", x.separation(0, 1), 200);
        due("separation(1, 0)", x.separation(1, 0), 60);
        due("separation(0, 2)", x.separation(0, 2), 33);
        due("separation(2, 0)", x.separation(2, 0), 33);
        due("separation(2, 2)", x.separation(2, 2), 60);
        dueIndex("separation(0, 3)", () -> x.separation(0, 3));
        dueIndex("separation(-1, 0)", () -> x.separation(-1, 0));
        promise = 16;
        // Of (1, b, 3) with 200: b = 0 gives 120, b = 2 gives 90 + 60; b = 1 and b = 3 hold 200 themselves.
        due("longerTriples()", x.longerTriples(), 2);
        due("longerTriples() at first", new RunwaySequencer().longerTriples(), 0);
        x.setWake(1, 3, 120);
        due("longerTriples() with equal sums", x.longerTriples(), 0);
        RunwaySequencer y = new RunwaySequencer();
        y.setWake(0, 0, 600);
        due("longerTriples() of super behind super", y.longerTriples(), 3);
    }

    private static void time() {
        promise = 17;
        RunwaySequencer x = of(THREE);
        due("now()", x.now(), 0);
        x.advance(7);
        due("now() behind 7", x.now(), 7);

        promise = 18;
        RunwaySequencer y = of(THREE);
        due("advance(1)", y.advance(1), 1);
        // All three are due within 120 seconds: b at 0, then a at 60, then c at 120.
        due("stateOf(0)", y.stateOf(0), 1);
        due("stateOf(1)", y.stateOf(1), 2);
        due("stateOf(2)", y.stateOf(2), 1);
        due("timeOf(2)", y.timeOf(2), 120);
        due("advance(118)", y.advance(118), 1);
        due("advance(1)", y.advance(1), 1);
        dueArgument("advance(0)", () -> y.advance(0));
        dueArgument("advance(7201)", () -> y.advance(7201));
        RunwaySequencer z = of("runways 2;freeze 0;arrival a light 10 10 10 2;arrival b light 5 10 10 1;"
                + "arrival c light 10 10 10 1");
        due("advance(4)", z.advance(4), 0);
        due("stateOf(1) at 4", z.stateOf(1), 0);
        due("advance(1)", z.advance(1), 0);
        due("stateOf(1) at 5", z.stateOf(1), 1);
        due("advance(60)", z.advance(60), 2);
        due("doneAt(0)", z.doneAt(0), 1);
        due("doneAt(1)", z.doneAt(1), 0);
        due("timeOf(2)", z.timeOf(2), 65);
        due("stateOf(2)", z.stateOf(2), 1);
        due("advance(1)", z.advance(1), 1);
        for (int i = 0; i < 27; i++) {
            z.advance(7200);
        }
        due("now()", z.now(), 66 + 27 * 7200);
        due("advance(5534)", z.advance(5534), 0);
        due("now() at the end", z.now(), 200000);
        due("advance(1) at the end", z.advance(1), RunwaySequencer.FULL);
        dueArgument("advance(0) at the end", () -> z.advance(0));
        due("now() stays", z.now(), 200000);
    }

    private static void settings() {
        RunwaySequencer x = of(THREE);
        promise = 19;
        due("shift()", x.shift(), 2);
        promise = 20;
        due("setShift(0)", x.setShift(0), 2);
        due("shift()", x.shift(), 0);
        due("plannedAt(0, 0)", x.plannedAt(0, 0), 0);
        due("setShift(4)", x.setShift(4), 0);
        due("plannedAt(0, 0) with 4", x.plannedAt(0, 0), 1);
        dueArgument("setShift(-1)", () -> x.setShift(-1));
        dueArgument("setShift(5)", () -> x.setShift(5));
        due("shift() stays", x.shift(), 4);
        promise = 21;
        x.advance(1);
        due("setWake(3, 1, 600)", x.setWake(3, 1, 600), 60);
        due("the frozen time stays", x.timeOf(0), 60);
        due("setWake(3, 1, 0)", x.setWake(3, 1, 0), 600);
        dueArgument("setWake(4, 0, 0)", () -> x.setWake(4, 0, 0));
        dueArgument("setWake(0, -1, 0)", () -> x.setWake(0, -1, 0));
        dueArgument("setWake(0, 0, 601)", () -> x.setWake(0, 0, 601));
        dueArgument("setWake(0, 0, -1)", () -> x.setWake(0, 0, -1));
        RunwaySequencer y = of(THREE);
        y.setShift(0);
        due("timeOf(1)", y.timeOf(1), 120);
        y.setWake(1, 3, 130);
        due("timeOf(1) with 130", y.timeOf(1), 130);
    }

    private static void changes() {
        promise = 22;
        RunwaySequencer x = of("runways 2;arrival a light 0 0 0 2;arrival b light 0 0 0 3;departure c light 0 0 900 3");
        due("runwayOf(0)", x.runwayOf(0), 1);
        due("runwayOf(1)", x.runwayOf(1), 0);
        dueIndex("runwayOf(3)", () -> x.runwayOf(3));
        promise = 23;
        due("assign(1, 1)", x.assign(1, 1), 0);
        due("runwayOf(1)", x.runwayOf(1), 1);
        due("timeOf(1)", x.timeOf(1), 60);
        due("assign(1, 1) again", x.assign(1, 1), 1);
        due("assign(0, 0)", x.assign(0, 0), RunwaySequencer.NOT_ALLOWED);
        dueIndex("assign(0, 2)", () -> x.assign(0, 2));
        dueIndex("assign(3, 0)", () -> x.assign(3, 0));
        dueIndex("assign(0, -1)", () -> x.assign(0, -1));
        promise = 24;
        due("cancel(1)", x.cancel(1), 2);
        due("cancel(1) again", x.cancel(1), RunwaySequencer.WRONG_STATE);
        due("runwayOf(1) stays", x.runwayOf(1), 1);
        dueIndex("cancel(3)", () -> x.cancel(3));
        x.advance(1);
        due("cancel(0) when done", x.cancel(0), RunwaySequencer.WRONG_STATE);
        promise = 23;
        due("assign(0, 0) when done", x.assign(0, 0), RunwaySequencer.WRONG_STATE);

        promise = 25;
        RunwaySequencer y = of(THREE);
        due("goAround(0) when planned", y.goAround(0), RunwaySequencer.WRONG_STATE);
        due("goAround(2) when planned", y.goAround(2), RunwaySequencer.WRONG_STATE);
        y.advance(1);
        due("goAround(2)", y.goAround(2), RunwaySequencer.NOT_ALLOWED);
        due("goAround(1) when done", y.goAround(1), RunwaySequencer.WRONG_STATE);
        due("goAround(0)", y.goAround(0), 601);
        due("earliest(0)", y.earliest(0), 601);
        due("target(0)", y.target(0), 601);
        due("latest(0)", y.latest(0), 601);
        due("timeOf(0)", y.timeOf(0), 601);
        due("stateOf(0)", y.stateOf(0), 0);
        dueIndex("goAround(3)", () -> y.goAround(3));
        RunwaySequencer z = of("runways 1;around 60;freeze 1800;arrival a light 0 100 1000 1");
        z.advance(1);
        due("goAround(0) of one that was done", z.goAround(0), RunwaySequencer.WRONG_STATE);
        RunwaySequencer w = of("runways 1;around 60;freeze 1800;arrival a light 50 100 1000 1");
        w.advance(10);
        due("goAround(0) with targets behind", w.goAround(0), 70);
        due("target(0) stays", w.target(0), 100);
        due("latest(0) stays", w.latest(0), 1000);

        promise = 26;
        due("stateOf(1)", x.stateOf(1), 3);
        due("stateOf(0)", x.stateOf(0), 2);
        due("stateOf(2)", y.stateOf(2), 1);
        dueIndex("stateOf(3)", () -> x.stateOf(3));
    }

    private static void places() {
        RunwaySequencer x = of(THREE);
        promise = 27;
        due("timeOf(0)", x.timeOf(0), 60);
        due("timeOf(1)", x.timeOf(1), 0);
        due("timeOf(2)", x.timeOf(2), 120);
        dueIndex("timeOf(3)", () -> x.timeOf(3));
        promise = 28;
        due("placeOf(1) right behind load()", of(THREE).placeOf(1), 0);
        due("placeOf(2) right behind load()", of(THREE).placeOf(2), 2);
        due("placeOf(0)", x.placeOf(0), 1);
        due("placeOf(1)", x.placeOf(1), 0);
        dueIndex("placeOf(-1)", () -> x.placeOf(-1));
        promise = 29;
        due("firstComePlace(0)", x.firstComePlace(0), 0);
        due("firstComePlace(1)", x.firstComePlace(1), 1);
        dueIndex("firstComePlace(3)", () -> x.firstComePlace(3));
        promise = 30;
        due("plannedAt(0, 0)", x.plannedAt(0, 0), 1);
        due("plannedAt(0, 2)", x.plannedAt(0, 2), 2);
        due("plannedAt(0, 3)", x.plannedAt(0, 3), RunwaySequencer.NONE);
        due("plannedAt(0, -1)", x.plannedAt(0, -1), RunwaySequencer.NONE);
        dueIndex("plannedAt(1, 0)", () -> x.plannedAt(1, 0));
        dueIndex("plannedAt(-1, 0)", () -> x.plannedAt(-1, 0));
        promise = 31;
        due("delay(0)", x.delay(0), 60);
        dueIndex("delay(3)", () -> x.delay(3));
        due("delay(0) with an earliest time", of("runways 1;arrival a light 70 80 90 1").delay(0), 0);
        promise = 32;
        RunwaySequencer y = of("runways 1;shift 0;arrival a light 0 0 59 1;"
                + "arrival b light 0 0 60 1;arrival c light 0 0 119 1");
        due("isLate(1)", y.isLate(1), false);
        due("isLate(2)", y.isLate(2), true);
        dueIndex("isLate(3)", () -> y.isLate(3));
        x.cancel(1);
        y.cancel(2);
        due("isLate(2) when cancelled", y.isLate(2), false);
        promise = 27;
        due("timeOf(1) when cancelled", x.timeOf(1), RunwaySequencer.NONE);
        promise = 28;
        due("placeOf(1) when cancelled", x.placeOf(1), RunwaySequencer.NONE);
        promise = 29;
        due("firstComePlace(1) when cancelled", x.firstComePlace(1), RunwaySequencer.NONE);
        promise = 31;
        due("delay(1) when cancelled", x.delay(1), RunwaySequencer.NONE);
        x.advance(1);
        promise = 28;
        due("placeOf(0) when not planned", x.placeOf(0), RunwaySequencer.NONE);
        promise = 29;
        due("firstComePlace(0) when not planned", x.firstComePlace(0), RunwaySequencer.NONE);

        // All cost nothing, so the smallest numbers go first as far as SHIFT lets them: 2 may not leave place 0 and 1.
        promise = 30;
        RunwaySequencer z = of("runways 1;shift 1;cost light 0 0;arrival a light 0 30 999 1;arrival b light 0 20 999 1;"
                + "arrival c light 0 10 999 1");
        due("plannedAt(0, 0)", z.plannedAt(0, 0), 1);
        due("plannedAt(0, 1)", z.plannedAt(0, 1), 2);
        due("plannedAt(0, 2)", z.plannedAt(0, 2), 0);
    }

    private static void costs() {
        RunwaySequencer x = of(THREE);
        promise = 33;
        due("costOf(0)", x.costOf(0), 40f);
        due("costOf(1)", x.costOf(1), 110f);
        due("costOf(2)", x.costOf(2), 0f);
        dueIndex("costOf(3)", () -> x.costOf(3));
        promise = 34;
        due("totalCost()", x.totalCost(), 150000);
        promise = 35;
        due("planCost(0)", x.planCost(0), 150000);
        due("planCost(0) right behind load()", of(THREE).planCost(0), 150000);
        dueIndex("planCost(1)", () -> x.planCost(1));
        promise = 36;
        due("firstComeCost(0)", x.firstComeCost(0), 240000);
        dueIndex("firstComeCost(-1)", () -> x.firstComeCost(-1));
        promise = 37;
        due("meanDelay()", x.meanDelay(), 60f);
        due("meanDelay() right behind load()", of(THREE).meanDelay(), 60f);
        due("meanDelay() with an earliest time", of("runways 1;arrival a light 70 80 90 1").meanDelay(), 0f);
        due("meanDelay() without flights", new RunwaySequencer().meanDelay(), 0f);
        x.advance(1);
        promise = 34;
        due("totalCost() when frozen", x.totalCost(), 150000);
        promise = 35;
        due("planCost(0) when frozen", x.planCost(0), 0);
        promise = 36;
        due("firstComeCost(0) when frozen", x.firstComeCost(0), 0);

        promise = 33;
        RunwaySequencer y = of("runways 1;shift 0;cost light 7 9999;arrival a light 0 0 0 1;arrival b light 0 0 0 1;"
                + "departure c super 0 0 99 1");
        due("costOf(1) when late", y.costOf(1), (float) (1000000000L + 60 * 9999L) / 1000f);
        promise = 37;
        due("meanDelay()", y.meanDelay(), 60f);
        promise = 38;
        due("lateCount()", y.lateCount(), 2);
        due("lateCount() right behind load()",
                of("runways 1;arrival a light 0 0 0 1;arrival b light 0 0 59 1").lateCount(), 1);
        y.cancel(1);
        due("lateCount() with a cancelled one", y.lateCount(), 0);
        due("lateCount() without flights", new RunwaySequencer().lateCount(), 0);
        promise = 33;
        due("costOf(1) when cancelled", y.costOf(1), 0f);
        promise = 34;
        due("totalCost() with a cancelled one", y.totalCost(), 60 * 2000);
        promise = 37;
        due("meanDelay() with a cancelled one", y.meanDelay(), 30f);

        // Times of 0 to 99999 with a cost of 9999 need more than an int.
        promise = 34;
        RunwaySequencer z = of("runways 1;shift 0;cost light 9999 0;"
                + "arrival a light 0 99999 99999 1;arrival b light 60 99999 99999 1;"
                + "arrival c light 120 99999 99999 1");
        due("totalCost() beyond an int", z.totalCost(), 9999L * (99999 + 99939 + 99879));
    }

    private static void counts() {
        promise = 39;
        StringBuilder text = new StringBuilder("runways 1;shift 0;cost light 0 0");
        for (int i = 0; i < 9; i++) {
            text.append(";arrival ").append((char) ('a' + i)).append(" light 0 ").append(i * 10).append(" 9999 1");
        }
        RunwaySequencer x = of(text.toString());
        int[] want = {1, 21, 172, 675, 1902};
        for (int shift = 0; shift <= 4; shift++) {
            x.setShift(shift);
            promise = 39;
            due("allowedSequences(0) with " + shift, x.allowedSequences(0), want[shift]);
            promise = 40;
            due("equalSequences(0) with " + shift, x.equalSequences(0), want[shift]);
        }
        dueIndex("equalSequences(1)", () -> x.equalSequences(1));
        promise = 39;
        dueIndex("allowedSequences(-1)", () -> x.allowedSequences(-1));
        due("allowedSequences(0) without flights", new RunwaySequencer().allowedSequences(0), 1);
        promise = 40;
        due("equalSequences(0) without flights", new RunwaySequencer().equalSequences(0), 1);
        RunwaySequencer y = of(THREE);
        due("equalSequences(0)", y.equalSequences(0), 1);
        promise = 39;
        due("allowedSequences(0)", y.allowedSequences(0), 6);
        y.setShift(1);
        due("allowedSequences(0) with 1", y.allowedSequences(0), 3);
        promise = 40;
        RunwaySequencer z = of("runways 1;arrival a light 0 0 9999 1;arrival b light 0 0 9999 1");
        due("equalSequences(0) of two alike", z.equalSequences(0), 2);
        due("plannedAt(0, 0) of two alike", z.plannedAt(0, 0), 0);

        // The eighth flight is behind the window: it stays last although it would cost less ahead.
        promise = 35;
        StringBuilder eight = new StringBuilder("runways 1;shift 4;cost light 0 1;cost heavy 0 9999");
        for (int i = 0; i < 7; i++) {
            eight.append(";arrival ").append((char) ('a' + i)).append(" light 0 0 9999 1");
        }
        eight.append(";arrival h heavy 0 1 9999 1");
        RunwaySequencer w = of(eight.toString());
        due("plannedAt(0, 7)", w.plannedAt(0, 7), 7);
        due("planCost(0)", w.planCost(0), 60 * (1 + 2 + 3 + 4 + 5 + 6) + 9999L * 419);
        w.cancel(0);
        due("plannedAt(0, 6) in the window", w.plannedAt(0, 2), 7);
    }

    private static void gaps() {
        RunwaySequencer x = of(THREE);
        promise = 41;
        due("slack(1)", x.slack(1), 0);
        due("slack(2)", x.slack(2), RunwaySequencer.NONE);
        dueIndex("slack(3)", () -> x.slack(3));
        promise = 42;
        due("binding(1)", x.binding(1), RunwaySequencer.NONE);
        due("binding(0)", x.binding(0), 1);
        due("binding(2)", x.binding(2), 0);
        dueIndex("binding(-1)", () -> x.binding(-1));
        x.advance(1);
        due("binding(0) when frozen", x.binding(0), RunwaySequencer.NONE);
        promise = 41;
        due("slack(1) when done", x.slack(1), RunwaySequencer.NONE);

        // Heavy at 0, medium at 60; light would be at 120 behind medium, but heavy holds it until 200.
        String held = "runways 1;shift 0;freeze 0;wake heavy light 200;arrival a heavy 0 0 999 1;"
                + "arrival b medium 0 1 999 1;arrival c light 0 2 999 1;arrival d light 500 500 999 1";
        RunwaySequencer y = of(held);
        promise = 43;
        due("pastNeighbor() right behind load()", of(held).pastNeighbor(), 1);
        due("timeOf(2)", y.timeOf(2), 200);
        due("pastNeighbor()", y.pastNeighbor(), 1);
        promise = 42;
        due("binding(2)", y.binding(2), 0);
        due("binding(3)", y.binding(3), RunwaySequencer.NONE);
        promise = 41;
        due("slack(0)", y.slack(0), 0);
        due("slack(1)", y.slack(1), 80);
        due("slack(2)", y.slack(2), 240);
        promise = 44;
        due("lastTime(0)", y.lastTime(0), 500);
        due("lastTime(0) right behind load()", of(held).lastTime(0), 500);
        dueIndex("lastTime(1)", () -> y.lastTime(1));
        due("lastTime(0) without flights", new RunwaySequencer().lastTime(0), RunwaySequencer.NONE);
        y.advance(61);
        // Heavy and medium are done: light is the first of the plan now, and held by done flights only.
        promise = 42;
        due("binding(2) by a done one", y.binding(2), 0);
        promise = 43;
        due("pastNeighbor() behind done ones", y.pastNeighbor(), 0);
        due("pastNeighbor() without flights", new RunwaySequencer().pastNeighbor(), 0);

        // Both a and b at 0 bind c at 60: the smaller number counts, also if it is not the first.
        promise = 42;
        RunwaySequencer z = of("runways 1;shift 0;wake light light 0;arrival a light 0 5 999 1;"
                + "arrival b light 0 4 999 1;"
                + "arrival c heavy 0 6 999 1");
        due("binding(2) of two", z.binding(2), 0);
        due("binding(0) with no separation", z.binding(0), 1);
        due("binding(1) of one behind", z.binding(1), RunwaySequencer.NONE);
    }

    private static void history() {
        RunwaySequencer x = of(THREE);
        promise = 45;
        due("doneCount()", x.doneCount(), 0);
        promise = 48;
        due("isSmooth()", x.isSmooth(), true);
        x.advance(1);
        promise = 45;
        due("doneCount() at 1", x.doneCount(), 1);
        promise = 46;
        due("doneAt(0)", x.doneAt(0), 1);
        due("doneAt(1)", x.doneAt(1), RunwaySequencer.NONE);
        due("doneAt(-1)", x.doneAt(-1), RunwaySequencer.NONE);
        promise = 47;
        x.goAround(0);
        due("aroundCount(0)", x.aroundCount(0), 1);
        due("aroundCount(1)", x.aroundCount(1), 0);
        dueIndex("aroundCount(3)", () -> x.aroundCount(3));
        x.advance(500);
        x.goAround(0);
        due("aroundCount(0) again", x.aroundCount(0), 2);
        promise = 48;
        due("isSmooth() behind", x.isSmooth(), false);
        x.cancel(0);
        due("isSmooth() when that one is cancelled", x.isSmooth(), false);
        due("load()", loaded(x, THREE), 3);
        due("isSmooth() anew", x.isSmooth(), true);
        promise = 47;
        due("aroundCount(0) anew", x.aroundCount(0), 0);
        promise = 46;
        // c is at 0 and a behind it at 60, which costs less than a at 9 and c at 69; b is alone at 9.
        RunwaySequencer y = of("runways 2;arrival a light 9 9 99 2;arrival b light 9 9 9 1;arrival c light 0 9 99 2");
        y.advance(200);
        due("doneAt(0)", y.doneAt(0), 2);
        due("doneAt(1)", y.doneAt(1), 1);
        due("doneAt(2)", y.doneAt(2), 0);
        // Equal times on two runways: the smaller number first, whatever the runway.
        RunwaySequencer z = of("runways 2;arrival a light 9 9 9 2;arrival b light 9 9 9 1");
        z.advance(9);
        due("doneAt(0) of equal times", z.doneAt(0), 0);
        due("doneAt(1) of equal times", z.doneAt(1), 1);
    }

    private static void shifts() {
        RunwaySequencer x = of(THREE);
        promise = 49;
        due("costWithShift(0)", x.costWithShift(0), 240000);
        due("costWithShift(1)", x.costWithShift(1), 150000);
        due("costWithShift(4)", x.costWithShift(4), 150000);
        dueArgument("costWithShift(-1)", () -> x.costWithShift(-1));
        dueArgument("costWithShift(5)", () -> x.costWithShift(5));
        due("shift() stays", x.shift(), 2);
        due("plannedAt(0, 0) stays", x.plannedAt(0, 0), 1);
        promise = 50;
        due("neededShift()", x.neededShift(), 1);
        due("neededShift() without flights", new RunwaySequencer().neededShift(), 0);
        RunwaySequencer y = of("runways 1;cost light 0 1;cost heavy 0 100;wake light heavy 1;wake heavy light 1;"
                + "wake light light 1;arrival a light 0 0 99 1;arrival b light 0 0 99 1;arrival c light 0 0 99 1;"
                + "arrival d heavy 0 0 99 1");
        due("neededShift() of three places", y.neededShift(), 3);
    }

    private static void runways() {
        RunwaySequencer x = of("runways 2;arrival a light 0 0 99 3;arrival b light 0 0 99 2;arrival c light 0 10 99 3");
        // a on 0, b on 1, c on 0 at 60.
        promise = 51;
        due("costIfAssigned(2, 0)", x.costIfAssigned(2, 0), 100000);
        due("costIfAssigned(0, 1)", x.costIfAssigned(0, 1), 10000 + 120000);
        due("costIfAssigned(1, 0)", x.costIfAssigned(1, 0), RunwaySequencer.NOT_ALLOWED);
        dueIndex("costIfAssigned(3, 0)", () -> x.costIfAssigned(3, 0));
        dueIndex("costIfAssigned(0, 2)", () -> x.costIfAssigned(0, 2));
        due("runwayOf(0) stays", x.runwayOf(0), 0);
        promise = 52;
        due("bestRunway(0)", x.bestRunway(0), 0);
        due("bestRunway(1)", x.bestRunway(1), 1);
        due("bestRunway(2)", x.bestRunway(2), 0);
        x.assign(2, 1);
        due("bestRunway(2) of equals", x.bestRunway(2), 0);
        dueIndex("bestRunway(3)", () -> x.bestRunway(3));
        due("runwayOf(2) stays", x.runwayOf(2), 1);
        promise = 53;
        due("balance() of equals", x.balance(), 0);
        x.cancel(1);
        due("balance() of nothing better", x.balance(), 0);
        x.assign(2, 0);
        // c alone would be 10 seconds early: 10000 instead of 100000; a alone leaves the same to c.
        due("balance()", x.balance(), 1);
        due("runwayOf(0)", x.runwayOf(0), 1);
        due("runwayOf(2)", x.runwayOf(2), 0);
        due("balance() again", x.balance(), 0);
        x.advance(1);
        promise = 51;
        due("costIfAssigned(0, 0) when done", x.costIfAssigned(0, 0), RunwaySequencer.WRONG_STATE);
        promise = 52;
        due("bestRunway(0) when done", x.bestRunway(0), RunwaySequencer.WRONG_STATE);

        promise = 53;
        StringBuilder many = new StringBuilder("runways 2;shift 0");
        for (int i = 0; i < 23; i++) {
            many.append(";arrival ").append((char) ('a' + i)).append(" light 0 0 99999 3");
        }
        RunwaySequencer y = of(many.toString());
        for (int f = 0; f < 23; f++) {
            y.assign(f, 0);
        }
        due("balance() of 23 on one runway", y.balance(), 10);
        int on1 = 0;
        for (int f = 0; f < 23; f++) {
            on1 += y.runwayOf(f);
        }
        due("flights on the other runway", on1, 10);
        due("balance() goes on", y.balance(), 1);
    }

    private static void predictions() {
        promise = 54;
        RunwaySequencer x = of(THREE);
        due("aroundCost(0) when planned", x.aroundCost(0), RunwaySequencer.WRONG_STATE);
        x.advance(1);
        due("aroundCost(0)", x.aroundCost(0), -40000);
        due("aroundCost(1) when done", x.aroundCost(1), RunwaySequencer.WRONG_STATE);
        due("aroundCost(2)", x.aroundCost(2), RunwaySequencer.NOT_ALLOWED);
        due("stateOf(0) stays", x.stateOf(0), 1);
        due("earliest(0) stays", x.earliest(0), 0);
        dueIndex("aroundCost(3)", () -> x.aroundCost(3));

        promise = 55;
        RunwaySequencer y = of("runways 1;shift 0;arrival a light 0 0 100 1;arrival b light 0 1 155 1;"
                + "arrival c light 10 20 30 1;arrival d light 0 90 5000 1");
        // a may begin at 90: 120 is after its latest time. b is late once it begins behind 150.
        due("latestStart(0)", y.latestStart(0), 90);
        due("latestStart(1)", y.latestStart(1), 150);
        due("latestStart(2) of a late one", y.latestStart(2), RunwaySequencer.NONE);
        due("latestStart(3)", y.latestStart(3), 900);
        due("earliest(3) stays", y.earliest(3), 0);
        dueIndex("latestStart(4)", () -> y.latestStart(4));
        y.cancel(3);
        due("latestStart(3) when cancelled", y.latestStart(3), RunwaySequencer.NONE);

        // The done flight holds b until 100, which is its latest time, and so is its earliest time plus 30.
        RunwaySequencer w = of("runways 1;freeze 0;wake light light 100;arrival a light 0 0 0 1;"
                + "arrival b light 70 99 100 1");
        w.advance(1);
        due("latestStart(1) right at its latest time", w.latestStart(1), 100);

        promise = 56;
        RunwaySequencer descending = of("runways 1;shift 0;wake light light 100;arrival a light 200 200 999 1;"
                + "arrival b light 100 100 999 1;arrival c light 0 0 999 1");
        due("timeInserted(3, 0, 0) pushed thrice", descending.timeInserted(3, 0, 0), 300);
        RunwaySequencer z = of("runways 2;mixed 10;freeze 0;wake light light 50;wake light heavy 100;"
                + "wake heavy light 70;"
                + "arrival a light 100 100 999 1;arrival b heavy 300 300 999 1;departure c light 400 400 999 1");
        // A light one: behind a from 150, before b until 200; behind b from 370, before c until 390, behind c from 410.
        int[][] want = {{0, 0}, {50, 50}, {51, 150}, {200, 200}, {201, 370}, {390, 390}, {391, 410}, {200000, 200000}};
        for (int[] pair : want) {
            due("timeInserted(3, " + pair[0] + ", 0)", z.timeInserted(3, pair[0], 0), pair[1]);
        }
        due("timeInserted(3, 77, 1)", z.timeInserted(3, 77, 1), 77);
        dueIndex("timeInserted(3, 0, 2)", () -> z.timeInserted(3, 0, 2));
        dueIndex("timeInserted(9, -1, 2)", () -> z.timeInserted(9, -1, 2));
        dueArgument("timeInserted(4, 0, 0)", () -> z.timeInserted(4, 0, 0));
        dueArgument("timeInserted(-1, 0, 0)", () -> z.timeInserted(-1, 0, 0));
        dueArgument("timeInserted(0, -1, 0)", () -> z.timeInserted(0, -1, 0));
        dueArgument("timeInserted(0, 200001, 0)", () -> z.timeInserted(0, 200001, 0));
        z.advance(120);
        due("timeInserted(3, 0, 0) behind a done one", z.timeInserted(3, 0, 0), 150);
        z.cancel(1);
        due("timeInserted(3, 201, 0) with b cancelled", z.timeInserted(3, 201, 0), 201);
        z.advance(500);
        due("timeInserted(3, 0, 1) at present", z.timeInserted(3, 0, 1), 620);
    }

    private static void simulations() {
        promise = 57;
        RunwaySequencer x = of("runways 1;arrival a light 100 100 100 1");
        // At 60 the flight is frozen. From seed 0 the first x is 12345, and 12345 / 65536 is 0.
        due("simulate(0, 1, 60, 1)", x.simulate(0, 1, 60, 1), 1);
        due("simulate(0, 0, 60, 1)", x.simulate(0, 0, 60, 1), 0);
        due("simulate(0, 1, 60, 0)", x.simulate(0, 1, 60, 0), 0);
        due("simulate(0, 0, 99, 0)", x.simulate(0, 0, 99, 0), 0);
        due("simulate(0, 0, 100, 0)", x.simulate(0, 0, 100, 0), 1);
        // From seed 1 the first x is 1103527590, and 1103527590 / 65536 is 16838, of which 838 is too much.
        due("simulate(1, 500, 60, 1)", x.simulate(1, 500, 60, 1), 0);
        // From seed 5 the first x is 1222621274; 18655 leaves 655. From seed 3 it is 1163074432; 17747 leaves 747.
        due("simulate(5, 500, 60, 1)", x.simulate(5, 500, 60, 1), 0);
        // From seed 2 the first x is 59559187; 908 is too much.
        due("simulate(2, 500, 60, 1)", x.simulate(2, 500, 60, 1), 0);
        // Gone around at 60, it is frozen for 660 from 540 on; the next x are 1406932606 and 654583775: 21468 and 9988.
        due("simulate(0, 400, 540, 1)", x.simulate(0, 400, 540, 1), 1);
        due("simulate(0, 500, 540, 1)", x.simulate(0, 500, 540, 1), 2);
        due("simulate(0, 400, 660, 0)", x.simulate(0, 400, 660, 0), 1);
        due("simulate(0, 400, 659, 0)", x.simulate(0, 400, 659, 0), 0);
        due("now() stays", x.now(), 0);
        due("stateOf(0) stays", x.stateOf(0), 0);
        due("aroundCount(0) stays", x.aroundCount(0), 0);
        RunwaySequencer y = of("runways 1;shift 0;arrival a light 0 0 0 1;"
                + "arrival b light 0 0 50 1;arrival c light 0 0 500 1");
        due("simulate(0, 0, 7200, 2)", y.simulate(0, 0, 7200, 2), 1);
        due("simulate(0, 0, 7200, 3)", y.simulate(0, 0, 7200, 3), 60);
        due("simulate(0, 0, 7200, 0)", y.simulate(0, 0, 7200, 0), 3);
        due("simulate(0, 0, 1, 0)", y.simulate(0, 0, 1, 0), 1);
        dueArgument("simulate(-1, 0, 1, 0)", () -> y.simulate(-1, 0, 1, 0));
        dueArgument("simulate(0, -1, 1, 0)", () -> y.simulate(0, -1, 1, 0));
        dueArgument("simulate(0, 501, 1, 0)", () -> y.simulate(0, 501, 1, 0));
        dueArgument("simulate(0, 0, 0, 0)", () -> y.simulate(0, 0, 0, 0));
        dueArgument("simulate(0, 0, 7201, 0)", () -> y.simulate(0, 0, 7201, 0));
        dueArgument("simulate(0, 0, 1, 4)", () -> y.simulate(0, 0, 1, 4));
        dueArgument("simulate(0, 0, 1, -1)", () -> y.simulate(0, 0, 1, -1));
        for (int i = 0; i < 27; i++) {
            x.advance(7200);
        }
        x.advance(5600);
        due("simulate(0, 0, 7200, 0) at 200000", x.simulate(0, 0, 7200, 0), 1);
        due("simulate(2147483647, 500, 7200, 1)", x.simulate(2147483647, 500, 7200, 1), 0);
    }

    private static void snapshots() {
        promise = 58;
        RunwaySequencer x = of(THREE);
        due("saveSnapshot(0)", x.saveSnapshot(0), 0);
        x.advance(1);
        x.goAround(0);
        x.setShift(4);
        x.setWake(0, 0, 5);
        due("saveSnapshot(1)", x.saveSnapshot(1), 1);
        dueArgument("saveSnapshot(2)", () -> x.saveSnapshot(2));
        dueArgument("saveSnapshot(-1)", () -> x.saveSnapshot(-1));
        promise = 59;
        append(x, "ab");
        due("restoreSnapshot(0)", x.restoreSnapshot(0), 0);
        due("the buffer stays", x.appendByte('c'), 3);
        due("stateOf(1)", x.stateOf(1), 0);
        due("earliest(0)", x.earliest(0), 0);
        due("isSmooth()", x.isSmooth(), true);
        due("shift()", x.shift(), 2);
        due("wake(0, 0)", x.wake(0, 0), 60);
        due("timeOf(0)", x.timeOf(0), 60);
        due("doneCount()", x.doneCount(), 0);
        x.cancel(0);
        due("restoreSnapshot(0) again", x.restoreSnapshot(0), 0);
        due("stateOf(0)", x.stateOf(0), 0);
        due("restoreSnapshot(1)", x.restoreSnapshot(1), 1);
        due("aroundCount(0)", x.aroundCount(0), 1);
        due("doneAt(0)", x.doneAt(0), 1);
        due("wake(0, 0) of slot 1", x.wake(0, 0), 5);
        dueArgument("restoreSnapshot(2)", () -> x.restoreSnapshot(2));
        dueArgument("restoreSnapshot(-1)", () -> x.restoreSnapshot(-1));
    }
}
