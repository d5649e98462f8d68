import java.math.BigInteger;

/** The edges of section 5 and of promise 57. */
final class SimulationEdges {
    private static final BigInteger FACTOR = BigInteger.valueOf(1103515245);
    private static final BigInteger MORE = BigInteger.valueOf(12345);
    private static final BigInteger MODULUS = BigInteger.valueOf(2147483648L);
    private static final int[] SEEDS = {0, 1, 2, 5, 12345, 65535, 65536, 1073741824, 2147483646, 2147483647};

    private SimulationEdges() {
    }

    static void test() {
        ranges();
        nothingChanges();
        draws();
        limits();
        whoDraws();
        minutes();
        values();
        beyond();
    }

    /** The state x behind the first draws. */
    private static long state(long seed, int draws) {
        BigInteger x = BigInteger.valueOf(seed);
        for (int i = 0; i < draws; i++) {
            x = FACTOR.multiply(x).add(MORE).mod(MODULUS);
        }
        return x.longValue();
    }

    /** What is compared with permille in a draw, the first being 1. */
    private static int number(long seed, int draw) {
        return (int) (state(seed, draw) / 65536 % 1000);
    }

    private static String call(long seed, int permille, int seconds, int what) {
        return "simulate(" + seed + ", " + permille + ", " + seconds + ", " + what + ")";
    }

    private static void ranges() {
        Edges.promise(57, "seed: 0 or greater");
        Run run = Run.middle();
        run.predicts(call(0, 0, 1, 0), 1).predicts(call(2147483647, 0, 1, 0), 1);
        run.refuses("simulate(-1, 0, 1, 0)", Run.ARGUMENT).refuses("simulate(-2147483648, 0, 1, 0)", Run.ARGUMENT);
        Edges.promise(57, "permille: 0 to 500");
        run.predicts(call(0, 500, 1, 0), 1).refuses("simulate(0, -1, 1, 0)", Run.ARGUMENT)
                .refuses("simulate(0, 501, 1, 0)", Run.ARGUMENT);
        Edges.promise(57, "seconds: 1 to 7200");
        run.predicts(call(0, 0, 7200, 0), 4).refuses("simulate(0, 0, 0, 0)", Run.ARGUMENT)
                .refuses("simulate(0, 0, -1, 0)", Run.ARGUMENT).refuses("simulate(0, 0, 7201, 0)", Run.ARGUMENT);
        Edges.promise(57, "what: 0 to 3");
        run.predicts(call(0, 0, 1, 3), 15).refuses("simulate(0, 0, 1, -1)", Run.ARGUMENT)
                .refuses("simulate(0, 0, 1, 4)", Run.ARGUMENT);
    }

    private static void nothingChanges() {
        Edges.promise(57, "Nothing changes");
        for (int what = 0; what < 4; what++) {
            Run run = Run.middle();
            run.isLike(Run.middle().then(call(0, 500, 7200, what)));
        }
        Edges.section(5, "begins with the state at hand and the state x = seed");
        Run twice = Run.of("runways 1;arrival a light 100 100 100 1").is(call(0, 1, 60, 1), 1);
        twice.is(call(0, 1, 60, 1), 1).is(call(0, 1, 60, 1), 1);
    }

    private static void draws() {
        Edges.section(5, "x becomes (1103515245 * x + 12345) modulo 2147483648, and the number is x / 65536");
        Edges.due("x behind 0", state(0, 1), 12345);
        Edges.due("x behind 1", state(1, 1), 1103527590);
        // -1103515245 + 12345 modulo 2147483648.
        Edges.due("x behind 2147483647", state(2147483647, 1), 1043980748);
        Run run = Run.of("runways 1;arrival a light 100 100 100 1");
        for (int seed : SEEDS) {
            int n = number(seed, 1);
            run.is(call(seed, Math.min(n, 500), 60, 1), 0);
            if (n < 500) {
                run.is(call(seed, n + 1, 60, 1), 1);
            }
        }
    }

    private static void limits() {
        Edges.section(5, "If it modulo 1000 is less than permille, the flight goes around");
        Run run = Run.of("runways 1;arrival a light 100 100 100 1");
        for (int n : new int[] {0, 1, 250, 498, 499}) {
            int seed = seedOf(n);
            run.is(call(seed, n, 60, 1), 0).is(call(seed, n + 1, 60, 1), 1);
        }
        run.is(call(seedOf(500), 500, 60, 1), 0).is(call(seedOf(999), 500, 60, 1), 0);
    }

    /** The first seed from 1000000000 on whose first number is n modulo 1000. */
    private static int seedOf(int n) {
        int seed = 1000000000;
        while (number(seed, 1) != n) {
            seed++;
        }
        return seed;
    }

    private static void whoDraws() {
        Edges.section(5, "for each flight that is a frozen arrival: not done ones, and not planned ones");
        String at = "runways 1;freeze 120;arrival a light ";
        // From seed 0 the first number is 0, so whoever draws first goes around.
        Run.of(at + "60 60 60 1").is(call(0, 1, 60, 1), 0).is(call(0, 1, 60, 0), 1);
        Run.of(at + "61 61 61 1").is(call(0, 1, 60, 1), 1).is(call(0, 1, 60, 0), 0);
        Run.of(at + "180 180 180 1").is(call(0, 1, 60, 1), 1);
        Run.of(at + "181 181 181 1").is(call(0, 1, 60, 1), 0);

        Edges.section(5, "not a departure, which draws no number");
        Run.of(at.replace("arrival", "departure") + "100 100 100 1").is(call(0, 500, 60, 1), 0);
        Run.of("runways 2;departure d light 100 100 100 1;arrival a light 100 100 100 2").is(call(0, 1, 60, 1), 1);

        Edges.section(5, "in the order of the numbers");
        // The first draw alone is below permille: flight 0 is at 170 and goes around, flight 1 at 100 does not.
        int seed = seedOf(7);
        while (number(seed, 1) != 7 || number(seed, 2) <= 7 || number(seed, 3) <= 7) {
            seed++;
        }
        Run.of("runways 2;arrival a light 170 170 170 1;arrival b light 100 100 100 2").is(call(seed, 8, 100, 1), 1)
                .is(call(seed, 8, 100, 0), 1).is(call(seed, 8, 180, 0), 1).is(call(seed, 0, 180, 0), 2);
        Edges.section(5, "a cancelled flight and a planned flight draw no number");
        Run.of("runways 2;arrival x light 100 100 100 1;arrival y light 9999 9999 9999 2;arrival a light 100 100 100 2")
                .then("cancel(0)").is(call(0, 1, 60, 1), 1);
    }

    private static void minutes() {
        Edges.section(5, "the last minute is shorter if necessary; behind each minute a number is drawn");
        // The second number is below permille, the first and the third are not: it counts at 61 to 120 seconds.
        int seed = 0;
        while (number(seed, 1) < 500 || number(seed, 2) >= 100 || number(seed, 3) < 500) {
            seed++;
        }
        Run run = Run.of("runways 1;arrival a light 121 121 121 1");
        run.is(call(seed, 100, 1, 1), 0).is(call(seed, 100, 60, 1), 0).is(call(seed, 100, 61, 1), 1)
                .is(call(seed, 100, 120, 1), 1);
        // From seed 0 the first number is 0: it is drawn behind a single second as well, if the flight is frozen then.
        run.is(call(0, 1, 1, 1), 1);
        Run.of("runways 1;arrival a light 122 122 122 1").is(call(0, 1, 1, 1), 0).is(call(0, 1, 2, 1), 1);

        Edges.section(5, "60 seconds each, the last one shorter: time ends at the given second");
        Run end = Run.of("runways 1;arrival a light 100 100 100 1");
        end.is(call(0, 0, 99, 0), 0).is(call(0, 0, 100, 0), 1).is(call(0, 0, 101, 0), 1);
        Run last = Run.of("runways 1;arrival a light 7200 7200 7200 1");
        last.is(call(0, 0, 7199, 0), 0).is(call(0, 0, 7200, 0), 1);
    }

    private static void values() {
        Edges.promise(57, "0 the number of flights that are done at the end, earlier ones included");
        Run.middle().predicts(call(0, 0, 49, 0), 1).predicts(call(0, 0, 50, 0), 2);
        Run.begin().predicts(call(0, 0, 60, 0), 0);

        Edges.promise(57, "1 how often flights went around");
        // From seed 0 the numbers are 0, 468 and 988. Going around for 61 seconds, it is frozen behind the next minute,
        // for 60 seconds it is done then.
        String around = "runways 1;freeze 1800;arrival a light 100 100 100 1;around ";
        Run.of(around + 61).predicts(call(0, 468, 120, 1), 1).predicts(call(0, 469, 120, 1), 2)
                .predicts(call(0, 500, 180, 1), 2);
        Run.of(around + 60).predicts(call(0, 469, 120, 1), 1).predicts(call(0, 469, 120, 0), 1);
        Run.middle().then("goAround(1)").predicts(call(0, 0, 60, 1), 0);
        Run.begin().predicts(call(0, 500, 60, 1), 0);

        Edges.promise(57, "2 the number of late flights at the end");
        String late = "runways 1;shift 0;arrival a light 0 0 0 1;arrival b light 0 0 59 1;arrival c light 0 0 120 1";
        Run.of(late).predicts(call(0, 0, 7200, 2), 1).predicts(call(0, 0, 1, 2), 1);
        Run.of(late).then("cancel(0)").predicts(call(0, 0, 7200, 2), 0);
        Run.begin().predicts(call(0, 0, 60, 2), 0);

        Edges.promise(57, "3 the mean delay at the end, cast to int");
        Run.of("runways 1;shift 0;arrival a light 0 0 0 1;arrival b light 0 0 99 1;arrival c light 80 80 999 1")
                .predicts(call(0, 0, 7200, 3), 33);
        Run.of("runways 1;shift 0;arrival a light 0 0 0 1;arrival b light 1 1 99 1").predicts(call(0, 0, 7200, 3), 29);
        Run.begin().predicts(call(0, 0, 60, 3), 0);

        Edges.section(5, "the end is behind the last number that is drawn");
        // a goes around to 660 behind the only minute; b, which waited for it until 160, is in time at 110 then.
        Run gone = Run.of("runways 1;shift 0;freeze 50;arrival a light 100 100 100 1;arrival b light 110 110 150 1");
        gone.predicts(call(0, 0, 60, 2), 1).predicts(call(0, 1, 60, 2), 0).predicts(call(0, 0, 60, 3), 25)
                .predicts(call(0, 1, 60, 3), 0);
    }

    /** An arrival that goes around again and again until second 200000, the last time but one after some seconds. */
    static Run atTheEnd(int seconds) {
        Run run = Run.of("runways 1;freeze 1800;around 3600;arrival a light 99999 99999 99999 1");
        for (int i = 0; i < 13; i++) {
            run.then("advance(7200)");
        }
        run.then("advance(6398)").is("now()", 99998);
        for (int i = 0; i < 26; i++) {
            run.then("goAround(0)", "advance(3599)");
        }
        int last = 193572 + seconds;
        return run.is("now()", 193572).then("goAround(0)", "advance(" + seconds + ")").is("goAround(0)", last + 3600)
                .is("advance(" + (200000 - last) + ")", 0).is("now()", 200000);
    }

    private static void beyond() {
        Edges.section(5, "Times may exceed 200000 in simulations");
        Run run = atTheEnd(3599).is("stateOf(0)", 1).is("goAround(0)", 203600).is("timeOf(0)", 203600);
        run.refuses("advance(1)", Run.FULL);
        run.predicts(call(0, 0, 3599, 0), 0).predicts(call(0, 0, 3600, 0), 1).predicts(call(0, 0, 7200, 0), 1);
        // Frozen from 201800 on, it draws first behind the 30th minute, and goes around to 205400.
        run.predicts(call(0, 1, 1740, 1), 0).predicts(call(0, 1, 1800, 1), 1);
        Run again = atTheEnd(3599).then("goAround(0)");
        again.is(call(0, 1, 1800 + 3599, 0), 0);
    }
}
