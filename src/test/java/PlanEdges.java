/** The edges of sections 2 and 3 and of the promises about separations, runways, plans and costs. */
final class PlanEdges {
    private static final String[] KINDS = {"super", "heavy", "medium", "light"};

    private PlanEdges() {
    }

    static void test() {
        wakes();
        separations();
        triples();
        firstCome();
        window();
        behindWindow();
        shifts();
        allowedCounts();
        times();
        heldByGoneFlights();
        flightCosts();
        floatCosts();
        choice();
        scrambled();
        setting();
        assigning();
        cancelling();
        states();
        places();
        delays();
        lateness();
        sums();
        slacks();
        bindings();
        neighbors();
        lastTimes();
    }

    /** Light flights a, b, ... with no cost but a second's late cost of 1, all with the target 0, 60 seconds apart. */
    private static String lights(int count) {
        StringBuilder b = new StringBuilder("runways 1;cost light 0 1;cost heavy 0 9999");
        for (int i = 0; i < count; i++) {
            b.append(";arrival ").append((char) ('a' + i)).append(" light 0 0 9999 1");
        }
        return b.toString();
    }

    private static void wakes() {
        Edges.promise(14, "a class, 0 to 3, of leader and follower");
        Run run = Run.of("runways 1;wake super light 11;wake light super 12");
        run.is("wake(0, 3)", 11).is("wake(3, 0)", 12).is("wake(0, 0)", 60).is("wake(3, 3)", 60);
        for (String wrong : new String[] {"-1, 0", "4, 0", "0, -1", "0, 4", "-1, -1", "4, 4"}) {
            run.refuses("wake(" + wrong + ")", Run.ARGUMENT);
        }
    }

    private static void separations() {
        String text = "runways 1;mixed 33;wake heavy light 100;wake light heavy 50;arrival a heavy 0 0 0 1;"
                + "arrival b light 0 0 0 1;departure c heavy 0 0 0 1;departure d light 0 0 0 1";
        Edges.section(2, "the wake separation of their classes if both are arrivals or both are departures");
        Run.of(text).is("separation(0, 1)", 100).is("separation(1, 0)", 50).is("separation(2, 3)", 100)
                .is("separation(3, 2)", 50);
        Edges.section(2, "and SECONDS of mixed otherwise");
        Run.of(text).is("separation(0, 3)", 33).is("separation(3, 0)", 33).is("separation(2, 1)", 33)
                .is("separation(1, 2)", 33).is("separation(0, 2)", 33);
        Edges.promise(15, "two flights, which may be the same and may be cancelled; one of them does not exist");
        Run.of(text).is("separation(0, 0)", 60).is("separation(3, 3)", 60).then("cancel(1)").is("separation(0, 1)", 100)
                .refuses("separation(0, 4)", Run.INDEX).refuses("separation(4, 0)", Run.INDEX)
                .refuses("separation(-1, 0)", Run.INDEX).refuses("separation(0, -1)", Run.INDEX);

        Edges.section(2, "kept between all pairs of flights, not only between neighbors");
        // The departure's time is not held by anything but the mixed separation of 0; b is held by a behind it.
        String all = "runways 1;shift 0;mixed 0;wake light light 100;arrival a light 0 0 999 1;"
                + "departure c light 0 1 999 1;arrival b light 0 2 999 1";
        Run.of(all).is("timeOf(0)", 0).is("timeOf(1)", 0).is("timeOf(2)", 100);
    }

    private static void triples() {
        Edges.promise(16, "greater than that of a and b plus that of b and c");
        Run none = Run.begin();
        none.is("longerTriples()", 0).then("setWake(0, 1, 120)").is("longerTriples()", 0);
        // Of (0, b, 1) the sum is 120 for b = 2 and b = 3 alone: b = 0 and b = 1 hold the separation themselves.
        none.then("setWake(0, 1, 121)").is("longerTriples()", 2);
        none.then("setWake(2, 1, 61)").is("longerTriples()", 1);

        Edges.promise(16, "which need not be different");
        Run.begin().then("setWake(2, 2, 120)").is("longerTriples()", 0).then("setWake(2, 2, 121)")
                .is("longerTriples()", 3);

        Edges.promise(16, "0 to 64");
        // With 600 for each class behind itself and 0 otherwise: (a, b, a) for all a and b that are different.
        Run most = Run.begin();
        for (int k = 0; k < 16; k++) {
            most.then("setWake(" + k / 4 + ", " + k % 4 + ", " + (k / 4 == k % 4 ? 600 : 0) + ")");
        }
        most.is("longerTriples()", 12);
        Run zero = Run.begin();
        for (int k = 0; k < 16; k++) {
            zero.then("setWake(" + k / 4 + ", " + k % 4 + ", 0)");
        }
        zero.is("longerTriples()", 0);
    }

    private static void firstCome() {
        Edges.section(3, "in the order of their targets, of equal targets the smaller number first");
        Run.of("runways 1;shift 0;arrival a light 0 50 99 1;arrival b light 9 49 99 1;arrival c light 0 50 99 1;"
                + "arrival d light 1 51 99 1").is("firstComePlace(1)", 0).is("firstComePlace(0)", 1)
                .is("firstComePlace(2)", 2).is("firstComePlace(3)", 3).is("plannedAt(0, 0)", 1)
                .is("plannedAt(0, 3)", 3);
        Edges.section(3, "the planned flights that are assigned to it");
        Run run = Run.of("runways 2;freeze 0;arrival a light 0 0 99 1;arrival b light 0 1 99 2;"
                + "arrival c light 0 2 99 1;"
                + "arrival d light 0 3 99 1");
        run.is("firstComePlace(1)", 0).is("firstComePlace(2)", 1).is("firstComePlace(3)", 2);
        run.then("cancel(2)").is("firstComePlace(3)", 1).is("firstComePlace(2)", Run.NONE);
        run.then("advance(1)").is("firstComePlace(3)", 0).is("firstComePlace(0)", Run.NONE);
    }

    private static void window() {
        Edges.section(3, "Its window are the first 7 of them: the 7th may be moved, the 8th not");
        for (int shift = 0; shift <= 4; shift++) {
            Run.of(lights(6) + ";arrival x heavy 0 1 9999 1;shift " + shift).is("placeOf(6)", 6 - shift)
                    .is("firstComePlace(6)", 6).is("timeOf(6)", 60 * (6 - shift));
            Run.of(lights(7) + ";arrival x heavy 0 1 9999 1;shift " + shift).is("placeOf(7)", 7).is("timeOf(7)", 420);
        }
        Edges.section(3, "or all, if there are fewer");
        for (int count = 0; count <= 5; count++) {
            int place = count > 4 ? count - 4 : 0;
            Run.of(lights(count) + ";arrival x heavy 0 1 9999 1;shift 4").is("placeOf(" + count + ")", place)
                    .is("lastTime(0)", 60 * count);
        }
        Run.begin().is("plannedAt(0, 0)", Run.NONE).is("planCost(0)", 0).is("allowedSequences(0)", 1);

        Edges.section(3, "the window when a flight of it is cancelled or frozen");
        Run eight = Run.of(lights(7) + ";arrival x heavy 0 1 9999 1;shift 4;freeze 0").is("placeOf(7)", 7);
        eight.then("saveSnapshot(0)", "cancel(3)").is("placeOf(7)", 2).is("timeOf(7)", 120);
        eight.then("restoreSnapshot(0)", "advance(1)").is("stateOf(0)", 1 + 1).is("placeOf(7)", 2).is("timeOf(7)", 180);
    }

    private static void behindWindow() {
        Edges.section(3, "The flights behind the window follow in the first-come order");
        Run.of(lights(7) + ";arrival z light 0 8 9999 1;arrival y heavy 0 9 9999 1;arrival x heavy 0 8 9999 1;shift 4")
                .is("plannedAt(0, 7)", 7).is("plannedAt(0, 8)", 9).is("plannedAt(0, 9)", 8)
                .is("plannedAt(0, 10)", Run.NONE).is("lastTime(0)", 540);

        // Every sequence of the window costs nothing; with g ahead, x could be at 420 instead of 660.
        String behind = lights(6).replace("light 0 1;", "light 0 0;") + ";arrival g heavy 0 0 9999 1;"
                + "arrival x super 0 1 9999 1;cost heavy 0 0;cost super 0 1;wake heavy super 300;shift 4";
        Edges.section(3, "they play no part in the choice");
        Run.of(behind).is("placeOf(6)", 6).is("timeOf(7)", 660);
        Edges.section(3, "Its cost includes the latter");
        Run.of(behind).is("planCost(0)", 659).is("totalCost()", 659).is("firstComeCost(0)", 659);
        Edges.promise(40, "the allowed sequences of the window: flights behind it play no part");
        Run.of(behind).is("equalSequences(0)", 1902).is("allowedSequences(0)", 1902);
    }

    private static void shifts() {
        Edges.section(3, "differs from its place in the first-come order by at most SHIFT: to the back");
        // a can be at 500 at the earliest; whoever is behind it is late, so it goes back as far as it may.
        StringBuilder text = new StringBuilder("runways 1;cost light 0 1;arrival a light 500 500 9999 1");
        for (int i = 1; i < 6; i++) {
            text.append(";arrival ").append((char) ('a' + i)).append(" light 0 ").append(500 + i).append(" 9999 1");
        }
        for (int shift = 0; shift <= 4; shift++) {
            Run.of(text + ";shift " + shift).is("placeOf(0)", shift).is("timeOf(0)", 500);
        }
        Edges.section(3, "differs from its place in the first-come order by at most SHIFT: to the front");
        for (int shift = 0; shift <= 4; shift++) {
            Run.of(lights(5) + ";arrival x heavy 0 1 9999 1;shift " + shift).is("placeOf(5)", 5 - shift);
        }
    }

    private static void allowedCounts() {
        Edges.promise(39, "1 if there are no planned flights, and the window of 7 at most");
        int[][] want = {{1, 1, 1, 1, 1}, {1, 1, 1, 1, 1}, {1, 2, 2, 2, 2}, {1, 3, 6, 6, 6}, {1, 5, 14, 24, 24},
            {1, 8, 31, 78, 120}, {1, 13, 73, 230, 504}, {1, 21, 172, 675, 1902}, {1, 21, 172, 675, 1902}};
        for (int count = 0; count < want.length; count++) {
            Run run = Run.of(lights(count));
            for (int shift = 0; shift <= 4; shift++) {
                run.then("setShift(" + shift + ")").is("allowedSequences(0)", want[count][shift]);
            }
        }
        Run done = Run.of("runways 1;arrival a light 0 0 0 1;arrival b light 0 0 99 1").is("allowedSequences(0)", 2);
        done.then("cancel(1)").is("allowedSequences(0)", 1).then("advance(1)").is("allowedSequences(0)", 1);
        Edges.promise(39, "if there is no such runway");
        done.refuses("allowedSequences(1)", Run.INDEX).refuses("allowedSequences(-1)", Run.INDEX);

        Edges.promise(40, "the same cost as that of the plan");
        Run.begin().is("equalSequences(0)", 1).refuses("equalSequences(1)", Run.INDEX)
                .refuses("equalSequences(-1)", Run.INDEX);
        // Two alike may change places; when one of them costs a second more, one sequence is left.
        String pair = "runways 1;cost light 0 2;cost heavy 0 2;arrival a light 0 0 99 1;arrival b heavy 0 0 99 1";
        Run.of(pair).predicts("equalSequences(0)", 2).is("equalSequences(0)", 2).is("equalSequences(0)", 2);
        Run.of(pair + ";wake light heavy 61").is("equalSequences(0)", 1);
        Run.of(pair + ";shift 0").is("equalSequences(0)", 1).is("allowedSequences(0)", 1);
        Run.of(pair).then("cancel(0)", "cancel(1)").is("equalSequences(0)", 1);
        // Not before 100: b, a makes a late by 60, while at 0 and 60 nobody would be.
        Run.of("runways 1;cost light 0 1;arrival a light 100 100 999 1;arrival b light 100 200 999 1")
                .is("equalSequences(0)", 1);
    }

    private static void times() {
        Edges.section(3, "the greatest one of the present time, its earliest time, and for each flight ahead ...");
        String two = "runways 1;shift 0;arrival a light 10 10 999 1;arrival b light ";
        Run.of(two + "69 69 999 1").is("timeOf(0)", 10).is("timeOf(1)", 70);
        Run.of(two + "70 70 999 1").is("timeOf(1)", 70);
        Run.of(two + "71 71 999 1").is("timeOf(1)", 71);

        // b waits behind a on runway 0; on runway 1 it could be there from 20 on, but not before the present time.
        String present = "runways 2;freeze 0;shift 0;arrival a light 500 500 999 1;arrival b light 20 500 999 3";
        Run.of(present).then("assign(1, 0)").is("timeOf(1)", 560).then("advance(19)", "assign(1, 1)")
                .is("timeOf(1)", 20);
        Run.of(present).then("assign(1, 0)", "advance(20)", "assign(1, 1)").is("timeOf(1)", 20);
        Run.of(present).then("assign(1, 0)", "advance(21)", "assign(1, 1)").is("timeOf(1)", 21);

        Edges.section(3, "each flight ahead of it in the sequence, not the one immediately ahead alone");
        String three = "runways 1;shift 0;wake super light ";
        String flights = ";arrival a super 0 0 999 1;arrival b medium 0 0 999 1;arrival c light 0 0 999 1";
        Run.of(three + 120 + flights).is("timeOf(2)", 120);
        Run.of(three + 121 + flights).is("timeOf(2)", 121);
    }

    private static void heldByGoneFlights() {
        String text = "runways 2;shift 0;freeze 0;wake super light 300;arrival a super 0 0 999 1;"
                + "arrival b light 0 5 999 3;"
                + "departure c light 0 6 999 2";
        Edges.section(3, "and each frozen and done flight of the runway");
        Run run = Run.of(text).then("assign(1, 0)").is("timeOf(1)", 300);
        run.then("advance(1)").is("stateOf(0)", 2).is("timeOf(1)", 300).then("advance(250)").is("timeOf(1)", 300);
        Run.of(text + ";freeze 99").then("assign(1, 0)", "advance(1)").is("stateOf(0)", 2).is("timeOf(1)", 300);
        Run frozen = Run.of("runways 1;freeze 99;wake super light 300;arrival a super 50 50 999 1;"
                + "arrival b light 0 51 999 1")
                .then("setShift(0)", "advance(1)").is("stateOf(0)", 1).is("timeOf(1)", 350);
        frozen.then("setWake(0, 3, 77)").is("timeOf(1)", 127);

        Edges.section(3, "of the runway: those of other runways do not count, nor do cancelled ones");
        run.is("timeOf(2)", 0).then("assign(1, 1)").is("timeOf(1)", 251);
        Run.of("runways 1;shift 0;arrival a super 0 0 999 1;arrival b light 0 5 999 1").is("timeOf(1)", 60)
                .then("cancel(0)").is("timeOf(1)", 0);
    }

    private static void flightCosts() {
        Edges.section(3, "EARLY * (TARGET - t) if t is less than TARGET, and LATE * (t - TARGET) otherwise");
        String early = "runways 1;cost light 7 11;arrival a light ";
        Run.of(early + "99 100 200 1").is("totalCost()", 7);
        Run.of(early + "100 100 200 1").is("totalCost()", 0);
        String late = "runways 1;shift 0;cost heavy 7 11;arrival a light 0 0 0 1;arrival b heavy 0 ";
        Run.of(late + "59 99 1").is("totalCost()", 11);
        Run.of(late + "60 99 1").is("totalCost()", 0);
        Run.of(late + "61 99 1").is("totalCost()", 7);

        Edges.section(3, "if t is greater than LATEST, 1000000000 is added");
        Run.of(late + "60 60 1").is("totalCost()", 0);
        Run.of(late + "59 60 1").is("totalCost()", 11);
        Run.of(late + "59 59 1").is("totalCost()", 1000000011L);

        Edges.section(3, "by its class");
        for (int k = 0; k < 4; k++) {
            StringBuilder text = new StringBuilder("runways 1");
            for (int i = 0; i < 4; i++) {
                text.append(";cost ").append(KINDS[i]).append(' ').append(i + 1).append(" 0");
            }
            Run.of(text + ";departure a " + KINDS[k] + " 0 10 10 1").is("totalCost()", 10 * (k + 1));
        }
    }

    private static void floatCosts() {
        Edges.promise(33, "(float) cost / 1000f");
        Run.of("runways 1;arrival a light 0 0 0 1").is("costOf(0)", 0.0f);
        Run.of("runways 1;cost light 1 0;arrival a light 0 1 1 1").is("costOf(0)", 1 / 1000f);
        Run.of("runways 1;cost light 9999 0;arrival a light 0 99999 99999 1")
                .is("costOf(0)", (float) 999890001L / 1000f);
        Run.of("runways 1;shift 0;cost light 0 9999;arrival a light 0 0 0 1;arrival b light 0 0 59 1")
                .is("costOf(1)", (float) 1000599940L / 1000f);
        // Both the cost and the quotient are rounded to a float; the float nearest to 16903.311 is another one.
        Edges.due("the two floats are different", (float) 16903311L / 1000f != (float) (16903311L / 1000.0), true);
        Run.of("runways 1;cost light 173 0;arrival a light 0 97707 99999 1").is("costOf(0)", (float) 16903311L / 1000f);
        Edges.promise(33, "0.0f if it is cancelled");
        Run.of("runways 1;arrival a light 0 50 50 1").is("costOf(0)", 50.0f).then("cancel(0)").is("costOf(0)", 0.0f);
        Edges.promise(33, "of frozen and done flights too, with the time they have");
        Run.of("runways 1;arrival a light 5 50 50 1").then("advance(1)").is("stateOf(0)", 1).is("costOf(0)", 45.0f)
                .then("advance(9)").is("stateOf(0)", 2).is("costOf(0)", 45.0f);
    }

    private static void choice() {
        Edges.section(3, "the smallest sum of the costs of its flights");
        String pair = "runways 1;arrival a light 0 0 999 1;arrival b heavy 0 0 999 1;cost light 0 9;cost heavy 0 ";
        Run.of(pair + 8).is("plannedAt(0, 0)", 0);
        Run.of(pair + 9).is("plannedAt(0, 0)", 0);
        Run.of(pair + 10).is("plannedAt(0, 0)", 1);

        Edges.section(3, "of several the lexicographically smallest by the numbers of the flights");
        // The first-come order is 2, 1, 0; nothing costs anything, so the numbers alone decide as far as SHIFT allows.
        String three = "runways 1;cost light 0 0;arrival a light 0 30 999 1;arrival b light 0 20 999 1;"
                + "arrival c light 0 10 999 1;shift ";
        String[] want = {"210", "120", "012"};
        for (int shift = 0; shift <= 2; shift++) {
            Run run = Run.of(three + shift);
            for (int place = 0; place < 3; place++) {
                run.is("plannedAt(0, " + place + ")", want[shift].charAt(place));
            }
        }
    }

    /** Nothing costs anything, so the numbers alone decide; the digits tell the first-come order. */
    private static void scrambled() {
        Edges.section(3, "the lexicographically smallest by the numbers, whatever the first-come order is");
        Run run = Run.begin().unbounded();
        for (String line : new String[] {"30412", "6543210", "1032", "2061534", "5601234", "4", "15", "3624501"}) {
            StringBuilder text = new StringBuilder("runways 1;cost light 0 0");
            for (char f = '0'; f <= '6'; f++) {
                text.append(";arrival ").append((char) (f - '0' + 'a')).append(" light 0 ");
                text.append(line.indexOf(f) + 9).append(" 9999 1");
            }
            run.append(text.toString()).then("load()");
            for (char f = '0'; f <= '6'; f++) {
                if (line.indexOf(f) < 0) {
                    run.then("cancel(" + f + ")");
                }
            }
            for (int shift = 0; shift <= 4; shift++) {
                String want = smallest(line, "", shift);
                run.then("setShift(" + shift + ")");
                for (int place = 0; place < line.length(); place++) {
                    run.is("plannedAt(0, " + place + ")", want.charAt(place));
                }
            }
        }
    }

    /** The first sequence that begins so, or null if no allowed one does. */
    private static String smallest(String line, String start, int shift) {
        if (start.length() == line.length()) {
            return start;
        }
        for (char f = '0'; f <= '9'; f++) {
            int from = line.indexOf(f);
            if (from >= 0 && start.indexOf(f) < 0 && Math.abs(from - start.length()) <= shift) {
                String found = smallest(line, start + f, shift);
                if (found != null) {
                    return found;
                }
            }
        }
        return null;
    }

    private static void setting() {
        Edges.promise(19, "Returns 0 to 4");
        for (int shift = 0; shift <= 4; shift++) {
            Run.begin().then("setShift(" + shift + ")").is("shift()", shift);
        }
        Edges.promise(20, "0 to 4; returns the previous value");
        Run.begin().is("setShift(0)", 2).is("setShift(4)", 0).is("setShift(4)", 4).is("setShift(2)", 4);
        Run.middle().refuses("setShift(-1)", Run.ARGUMENT).refuses("setShift(5)", Run.ARGUMENT);
        Run.of(lights(1) + ";arrival x heavy 0 1 9999 1").is("placeOf(1)", 0).then("setShift(0)").is("placeOf(1)", 1)
                .then("setShift(1)").is("placeOf(1)", 0);

        Edges.promise(21, "0 to 3, 0 to 3, 0 to 600; returns the previous separation");
        Run.begin().is("setWake(0, 3, 0)", 60).is("setWake(0, 3, 600)", 0).is("wake(0, 3)", 600)
                .is("setWake(3, 0, 5)", 60)
                .is("wake(0, 3)", 600);
        for (String wrong : new String[] {"-1, 0, 0", "4, 0, 0", "0, -1, 0", "0, 4, 0", "0, 0, -1", "0, 0, 601",
                "4, 4, 601"}) {
            Run.middle().refuses("setWake(" + wrong + ")", Run.ARGUMENT);
        }
        Edges.promise(21, "The times of frozen and done flights stay");
        Run run = Run.of("runways 1;shift 0;freeze 60;arrival a light 0 0 999 1;arrival b light 0 0 999 1;"
                + "arrival c light 0 0 999 1").then("advance(1)").is("stateOf(0)", 2).is("stateOf(1)", 1)
                .is("stateOf(2)", 0);
        run.then("setWake(3, 3, 600)").is("timeOf(0)", 0).is("timeOf(1)", 60).is("timeOf(2)", 660);
        run.then("setWake(3, 3, 0)").is("timeOf(0)", 0).is("timeOf(1)", 60).is("timeOf(2)", 60);
    }

    private static void assigning() {
        String text = "runways 2;arrival a light 0 0 0 1;arrival b light 500 500 500 3;arrival c light 500 600 999 2";
        Edges.promise(22, "the runway to which a flight is assigned, whatever its state");
        Run run = Run.of(text).then("cancel(2)").is("runwayOf(2)", 1).then("advance(1)").is("runwayOf(0)", 0);
        run.refuses("runwayOf(3)", Run.INDEX).refuses("runwayOf(-1)", Run.INDEX);

        Edges.promise(23, "Returns the previous runway");
        run.is("runwayOf(1)", 1).is("assign(1, 0)", 1).is("runwayOf(1)", 0).is("assign(1, 0)", 0).is("assign(1, 1)", 0);
        Edges.promise(23, "WRONG_STATE if the flight is not planned");
        run.is("stateOf(0)", 2).refuses("assign(0, 0)", Run.WRONG_STATE).refuses("assign(2, 1)", Run.WRONG_STATE);
        Run.middle().refuses("assign(1, 0)", Run.WRONG_STATE).refuses("assign(2, 1)", Run.WRONG_STATE);
        Edges.promise(23, "NOT_ALLOWED if it may not use the runway");
        Run.of(text).refuses("assign(0, 1)", Run.NOT_ALLOWED).refuses("assign(2, 0)", Run.NOT_ALLOWED)
                .is("assign(2, 1)", 1);
        Edges.section(6, "WRONG_STATE before NOT_ALLOWED: of assign");
        run.refuses("assign(0, 1)", Run.WRONG_STATE).refuses("assign(2, 0)", Run.WRONG_STATE);
        Edges.promise(23, "if there is no such flight or runway");
        run.refuses("assign(3, 0)", Run.INDEX).refuses("assign(-1, 0)", Run.INDEX).refuses("assign(1, 2)", Run.INDEX)
                .refuses("assign(1, -1)", Run.INDEX);
        Edges.section(6, "exceptions come before errors: of assign");
        run.refuses("assign(0, 2)", Run.INDEX).refuses("assign(2, -1)", Run.INDEX).refuses("assign(3, 2)", Run.INDEX);
    }

    private static void cancelling() {
        Edges.promise(24, "Returns the number of planned flights left, on all runways");
        Run.of("runways 2;arrival a light 0 0 0 1;arrival b light 0 0 0 2;arrival c light 0 0 0 1").is("cancel(1)", 2)
                .is("cancel(0)", 1).is("cancel(2)", 0).is("stateOf(2)", 3);
        Run.middle().is("cancel(3)", 0);
        Edges.promise(24, "WRONG_STATE if the flight is not planned");
        Run.middle().refuses("cancel(0)", Run.WRONG_STATE).refuses("cancel(1)", Run.WRONG_STATE)
                .refuses("cancel(2)", Run.WRONG_STATE).refuses("cancel(4)", Run.WRONG_STATE);
        Edges.promise(24, "if there is no such flight");
        Run.middle().refuses("cancel(5)", Run.INDEX).refuses("cancel(-1)", Run.INDEX);
        Run.begin().refuses("cancel(0)", Run.INDEX);
    }

    private static void states() {
        Edges.promise(26, "0 planned, 1 frozen, 2 done, 3 cancelled");
        Run.middle().is("stateOf(3)", 0).is("stateOf(1)", 1).is("stateOf(2)", 1).is("stateOf(0)", 2).is("stateOf(4)", 3)
                .refuses("stateOf(5)", Run.INDEX).refuses("stateOf(-1)", Run.INDEX);
        Edges.promise(27, "that of the present plan, or the time with which it was frozen; NONE if it is cancelled");
        Run.middle().is("timeOf(3)", 300).is("timeOf(1)", 60).is("timeOf(2)", 90).is("timeOf(0)", 0)
                .is("timeOf(4)", Run.NONE)
                .refuses("timeOf(5)", Run.INDEX).refuses("timeOf(-1)", Run.INDEX);
    }

    private static void places() {
        Edges.promise(28, "the place, from 0; NONE if the flight is not planned");
        Run.middle().is("placeOf(3)", 0).is("placeOf(0)", Run.NONE).is("placeOf(1)", Run.NONE)
                .is("placeOf(2)", Run.NONE)
                .is("placeOf(4)", Run.NONE).refuses("placeOf(5)", Run.INDEX).refuses("placeOf(-1)", Run.INDEX);
        Run.of(lights(3)).is("placeOf(0)", 0).is("placeOf(2)", 2);
        Edges.promise(29, "the place, from 0; NONE if the flight is not planned");
        Run.middle().is("firstComePlace(3)", 0).is("firstComePlace(0)", Run.NONE).is("firstComePlace(1)", Run.NONE)
                .is("firstComePlace(2)", Run.NONE).is("firstComePlace(4)", Run.NONE)
                .refuses("firstComePlace(5)", Run.INDEX).refuses("firstComePlace(-1)", Run.INDEX);
        Edges.promise(30, "NONE if there is no such place");
        Run three = Run.of(lights(3)).is("plannedAt(0, 0)", 0).is("plannedAt(0, 2)", 2).is("plannedAt(0, 3)", Run.NONE)
                .is("plannedAt(0, -1)", Run.NONE).is("plannedAt(0, 24)", Run.NONE)
                .is("plannedAt(0, 2147483647)", Run.NONE)
                .is("plannedAt(0, -2147483648)", Run.NONE);
        three.then("cancel(1)").is("plannedAt(0, 1)", 2).is("plannedAt(0, 2)", Run.NONE);
        Run.middle().is("plannedAt(0, 0)", Run.NONE).is("plannedAt(1, 0)", 3).is("plannedAt(1, 1)", Run.NONE);
        Edges.promise(30, "if there is no such runway, also with no such place");
        Run.middle().refuses("plannedAt(2, 0)", Run.INDEX).refuses("plannedAt(-1, 0)", Run.INDEX)
                .refuses("plannedAt(2, -1)", Run.INDEX).refuses("plannedAt(2, 99)", Run.INDEX);
    }

    private static void delays() {
        Edges.promise(31, "its time minus its earliest time; NONE if it is cancelled");
        Run.of("runways 1;shift 0;arrival a light 5 9 99 1;arrival b light 64 64 99 1;arrival c light 126 126 999 1")
                .is("delay(0)", 0).is("delay(1)", 1).is("delay(2)", 0).then("cancel(2)").is("delay(2)", Run.NONE)
                .refuses("delay(3)", Run.INDEX).refuses("delay(-1)", Run.INDEX);
        Run.middle().is("delay(0)", 0).is("delay(1)", 60).is("delay(2)", 0);
        Run.middle().then("goAround(1)").is("delay(1)", 0);

        Edges.promise(37, "(float) (sum of the delays) / (float) (number of these flights); 0.0f if there are none");
        Run.begin().is("meanDelay()", 0.0f);
        Run mean = Run.of("runways 1;shift 0;arrival a light 0 0 99 1;arrival b light 0 0 99 1;"
                + "arrival c light 80 80 99 1");
        mean.is("meanDelay()", 100 / 3f).then("cancel(2)").is("meanDelay()", 30.0f).then("cancel(0)")
                .is("meanDelay()", 0.0f)
                .then("cancel(1)").is("meanDelay()", 0.0f);
        Run.middle().is("meanDelay()", 15.0f);
    }

    private static void lateness() {
        Edges.promise(32, "after its latest time; false also if it is cancelled");
        String text = "runways 1;shift 0;arrival a light 0 0 0 1;arrival b light 0 0 60 1;arrival c light 0 0 119 1";
        Run run = Run.of(text).is("isLate(0)", false).is("isLate(1)", false).is("isLate(2)", true);
        run.refuses("isLate(3)", Run.INDEX).refuses("isLate(-1)", Run.INDEX);
        run.then("saveSnapshot(0)", "cancel(2)").is("isLate(2)", false);
        run.then("restoreSnapshot(0)", "advance(1)").is("stateOf(2)", 1).is("isLate(2)", true).then("advance(120)")
                .is("stateOf(2)", 2).is("isLate(2)", true).is("isLate(1)", false);

        Edges.promise(38, "not cancelled whose time is after their latest time");
        Run count = Run.of(text).is("lateCount()", 1).then("advance(1)").is("lateCount()", 1).then("advance(200)")
                .is("lateCount()", 1);
        count.is("doneCount()", 3);
        Run.of(text).then("cancel(2)").is("lateCount()", 0);
        Run first = Run.of("runways 1;shift 0;arrival a light 0 1 59 1;arrival b light 0 0 0 1").is("lateCount()", 1);
        first.is("isLate(0)", true).then("cancel(1)").is("lateCount()", 0);
        Run.of("runways 1;shift 0;arrival a light 0 1 59 1;arrival b light 0 0 0 1;arrival c light 0 2 119 1")
                .is("lateCount()", 2).append("runways 1;arrival z light 0 0 0 1").then("load()").is("lateCount()", 0);
        Run.begin().is("lateCount()", 0);
    }

    private static void sums() {
        String text = "runways 2;shift 0;freeze 60;arrival a light 0 5 99 1;arrival b light 0 5 99 1;"
                + "arrival c light 0 5 99 1;"
                + "arrival d light 0 7 99 2";
        // At 0, 60 and 120 on runway 0: 5 seconds early, 55 late, 115 late and later than 99; d is 7 seconds early.
        long third = 115 * 2000 + 1000000000L;
        Edges.promise(34, "all flights that are not cancelled, frozen and done ones included");
        Run.begin().is("totalCost()", 0);
        Run run = Run.of(text).is("totalCost()", 5000 + 110000 + third + 7000);
        run.then("cancel(3)").is("totalCost()", 5000 + 110000 + third).then("advance(1)").is("stateOf(0)", 2)
                .is("stateOf(1)", 1).is("stateOf(2)", 0).is("totalCost()", 5000 + 110000 + third);
        Run.middle().then("cancel(3)", "goAround(1)", "cancel(1)").is("totalCost()", 5000);

        Edges.promise(35, "the sum of the costs of its planned flights; if there is no such runway");
        run.is("planCost(0)", third).is("planCost(1)", 0).refuses("planCost(2)", Run.INDEX)
                .refuses("planCost(-1)", Run.INDEX);
        Run.of(text).is("planCost(0)", 5000 + 110000 + third).is("planCost(1)", 7000);

        Edges.promise(36, "the cost in the first-come order; if there is no such runway");
        run.is("firstComeCost(0)", third).is("firstComeCost(1)", 0).refuses("firstComeCost(2)", Run.INDEX)
                .refuses("firstComeCost(-1)", Run.INDEX);
        Run.begin().is("firstComeCost(0)", 0).is("planCost(0)", 0);
        Run.of(lights(1) + ";arrival x heavy 0 1 9999 1").is("planCost(0)", 60).is("firstComeCost(0)", 59 * 9999);
    }

    private static void slacks() {
        Edges.promise(41, "NONE if it is not planned or there is no flight behind it");
        Run.middle().is("slack(0)", Run.NONE).is("slack(1)", Run.NONE).is("slack(2)", Run.NONE).is("slack(4)", Run.NONE)
                .is("slack(3)", Run.NONE).refuses("slack(5)", Run.INDEX).refuses("slack(-1)", Run.INDEX);

        Edges.promise(41, "without a later time of any flight behind it in the plan");
        String three = "runways 1;shift 0;wake heavy light 200;arrival a heavy 0 0 9999 1;arrival b medium 0 1 9999 1;"
                + "arrival c light ";
        Run.of(three + "200 200 9999 1").is("slack(0)", 0).is("slack(1)", 80).is("slack(2)", Run.NONE);
        Run.of(three + "201 201 9999 1").is("slack(0)", 0).is("slack(1)", 81);
        // The flight behind the next one allows less than the next one does.
        Run.of(three.replace("b medium 0 1", "b medium 100 100") + "205 205 9999 1").is("slack(0)", 5)
                .is("slack(1)", 45);
        // A slack of 0 is an answer, not the lack of a flight behind.
        Run.of("runways 1;arrival a light 0 0 99 1;arrival b light 0 0 99 1").is("slack(0)", 0)
                .is("slack(1)", Run.NONE);
    }

    private static void bindings() {
        Edges.promise(42, "whose time plus the separation is equal to the time of this flight");
        String two = "runways 1;shift 0;arrival a light 0 0 999 1;arrival b light ";
        Run.of(two + "59 59 999 1").is("binding(1)", 0).is("binding(0)", Run.NONE);
        Run.of(two + "61 61 999 1").is("binding(1)", Run.NONE);

        Edges.promise(42, "in the plan, or frozen or done");
        String held = "runways 2;freeze 60;shift 0;wake light heavy 300;arrival a light 5 5 999 1;"
                + "arrival b heavy 0 6 999 1;"
                + "arrival c heavy 0 6 999 2";
        Run run = Run.of(held).is("binding(1)", 0).then("advance(1)").is("stateOf(0)", 1).is("binding(1)", 0);
        run.then("advance(9)").is("stateOf(0)", 2).is("binding(1)", 0).is("binding(0)", Run.NONE)
                .is("binding(2)", Run.NONE);

        Edges.promise(42, "of several the one with the smallest number");
        // b and a are both at 0 and both hold c at 60; b is ahead of a.
        Run.of("runways 1;shift 0;wake light light 0;arrival a light 0 5 999 1;arrival b light 0 4 999 1;"
                + "arrival c heavy 0 6 999 1").is("binding(2)", 0).is("binding(0)", 1);

        Edges.promise(42, "ahead of it: a flight behind does not count");
        Run.of("runways 1;shift 0;wake light light 0;arrival a light 9 9 99 1;arrival b light 9 9 99 1")
                .is("binding(0)", Run.NONE).is("binding(1)", 0);

        Edges.promise(42, "NONE if the flight is not planned; if there is no such flight");
        Run.middle().is("binding(0)", Run.NONE).is("binding(1)", Run.NONE).is("binding(2)", Run.NONE)
                .is("binding(3)", Run.NONE)
                .is("binding(4)", Run.NONE).refuses("binding(5)", Run.INDEX).refuses("binding(-1)", Run.INDEX);
    }

    private static void neighbors() {
        Edges.promise(43, "greater than if only the separation from the flight immediately ahead were kept");
        String three = ";arrival a heavy 0 0 9999 1;arrival b medium 0 1 9999 1;arrival c light 0 2 9999 1";
        Run.of("runways 1;shift 0;wake heavy light 120" + three).is("timeOf(2)", 120).is("pastNeighbor()", 0);
        Run.of("runways 1;shift 0;wake heavy light 121" + three).is("timeOf(2)", 121).is("pastNeighbor()", 1);
        // It would be there at its earliest time anyway.
        Run.of("runways 1;shift 0;wake heavy light 130" + three.replace("c light 0 2", "c light 130 130"))
                .is("timeOf(2)", 130).is("pastNeighbor()", 0);
        Run.begin().is("pastNeighbor()", 0);

        Edges.promise(43, "for the first one, from all frozen and done flights of the runway");
        String held = "runways 1;shift 0;freeze 0;wake heavy light 500;wake medium light 90" + three;
        Run run = Run.of(held).is("pastNeighbor()", 1).then("advance(1)").is("stateOf(0)", 2).is("placeOf(2)", 1)
                .is("pastNeighbor()", 1);
        run.then("advance(60)").is("stateOf(1)", 2).is("placeOf(2)", 0).is("timeOf(2)", 500).is("pastNeighbor()", 0);
        run.then("advance(400)").is("stateOf(2)", 0).is("pastNeighbor()", 0);

        Edges.promise(43, "the planned flights of all runways");
        Run.of("runways 2;shift 0;wake heavy light 500" + three.replace(" 1;", " 3;").replace("9999 1", "9999 3")
                + ";arrival d heavy 0 0 9999 2;arrival e medium 0 1 9999 2;arrival f light 0 2 9999 2")
                .then("assign(0, 0)", "assign(1, 0)", "assign(2, 0)").is("pastNeighbor()", 2);
    }

    private static void lastTimes() {
        Edges.promise(44, "NONE if there are no planned flights; if there is no such runway");
        Run.begin().is("lastTime(0)", Run.NONE).refuses("lastTime(1)", Run.INDEX).refuses("lastTime(-1)", Run.INDEX);
        Run.of(lights(9)).is("lastTime(0)", 480);
        Run.of("runways 1;arrival a light 0 0 0 1").is("lastTime(0)", 0).then("advance(1)").is("lastTime(0)", Run.NONE);
        Run.middle().is("lastTime(0)", Run.NONE).is("lastTime(1)", 300).then("cancel(3)").is("lastTime(1)", Run.NONE);
    }
}
