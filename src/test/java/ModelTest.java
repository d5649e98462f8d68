import java.util.ArrayList;
import java.util.List;
import java.util.Random;

/** Random runs of calls, answered by the class and by the model. A seed tells a run: java ModelTest SEED. */
public final class ModelTest {
    private static final int RUNS = 800;
    private static final int CALLS = 60;
    private static int wrong = 0;
    private static long calls = 0;

    private final Random random;
    private final long seed;
    /** Seldom looks at the plans, so that many calls come upon plans that are not made yet. */
    private final boolean quiet;
    /** Has times and costs up to the ends of their ranges, and goes on to the last second. */
    private final boolean wide;
    private final RunwaySequencer x = new RunwaySequencer();
    private Model m = new Model();
    private final Model[] saved = new Model[2];
    private final List<String> log = new ArrayList<>();

    private ModelTest(long seed) {
        this.seed = seed;
        this.random = new Random(seed);
        this.quiet = seed % 2 == 0;
        this.wide = seed % 3 == 0;
    }

    public static void main(String[] args) {
        if (args.length > 0) {
            new ModelTest(Long.parseLong(args[0])).run();
        } else {
            for (int i = 1; i <= RUNS && wrong < 5; i++) {
                new ModelTest(i).run();
            }
        }
        System.out.println(wrong == 0 ? calls + " answers as the model's" : wrong + " runs differ");
        if (wrong != 0) {
            System.exit(1);
        }
    }

    private int upTo(int n) {
        return random.nextInt(n + 1);
    }

    private boolean due(String call, double got, double want) {
        calls++;
        log.add(call + " -> " + got);
        if (got != want) {
            wrong++;
            System.out.println("seed " + seed + ": " + call + " answered " + got + ", the model says " + want);
            for (String line : log) {
                System.out.println("    " + line);
            }
            return false;
        }
        return true;
    }

    private void run() {
        if (!load(description())) {
            return;
        }
        for (int k = 0; k < CALLS; k++) {
            if (!call() || (wide && !advance(7200))) {
                return;
            }
        }
    }

    private void append(String text) {
        for (int i = 0; i < text.length(); i++) {
            x.appendByte(text.charAt(i));
        }
    }

    private boolean load(String text) {
        append(text);
        log.add("text \"" + text + "\"");
        long want;
        int error = 0;
        try {
            m = Model.read(text);
            want = m.flights.size();
        } catch (Model.ReadError e) {
            want = -100 - e.position;
            error = e.kind;
        }
        return due("load()", x.load(), want) && due("loadError()", x.loadError(), error);
    }

    private String space() {
        return random.nextInt(12) == 0 ? "  " : " ";
    }

    private String description() {
        int runways = 1 + upTo(2);
        StringBuilder b = new StringBuilder("runways ").append(runways);
        int span = wide ? 99999 : new int[] {50, 300, 900, 3000}[upTo(3)];
        int classes = upTo(3);
        for (int i = upTo(5); i > 0; i--) {
            b.append(";").append(setting());
        }
        int flights = random.nextInt(4) == 0 ? upTo(20) : upTo(10);
        for (int i = 0; i < flights && b.length() < 830; i++) {
            int earliest = upTo(span);
            int target = Math.min(99999, earliest + (random.nextBoolean() ? 0 : upTo(span)));
            int latest = Math.min(99999, target + (random.nextBoolean() ? upTo(60) : upTo(1200)));
            b.append(';').append(random.nextInt(4) == 0 ? "departure" : "arrival").append(space());
            b.append(name(i)).append(space()).append(Model.KINDS.get(upTo(classes))).append(space());
            b.append(earliest).append(space()).append(target).append(space()).append(latest).append(space());
            b.append(1 + random.nextInt((1 << runways) - 1));
        }
        return b.toString();
    }

    /** The words of statements and classes may be names too. */
    private static String name(int i) {
        String[] words = {"wake", "a", "ab", "light", "aa", "cost", "zzzzzz", "abcdef"};
        return i < words.length ? words[i] : String.valueOf((char) ('a' + i));
    }

    private String setting() {
        String kind = Model.KINDS.get(upTo(3));
        switch (upTo(7)) {
            case 0:
                return "mixed " + upTo(200);
            case 1:
                return "shift " + upTo(4);
            case 2:
                return "freeze " + (random.nextBoolean() ? upTo(1800) : upTo(100));
            case 3:
                return "around " + (60 + upTo(600));
            case 4:
                return "cost " + kind + " " + upTo(3) * (wide ? 3333 : 500) + " " + upTo(3) * (wide ? 3333 : 500);
            default:
                return "wake " + kind + " " + Model.KINDS.get(upTo(3)) + " " + upTo(5) * (wide ? 120 : 40);
        }
    }

    private String spoilt(String text) {
        StringBuilder b = new StringBuilder(text);
        for (int i = upTo(2); i >= 0 && b.length() > 0; i--) {
            int at = random.nextInt(b.length());
            char c = " ;;az09 A~".charAt(upTo(9));
            switch (upTo(3)) {
                case 0:
                    b.setCharAt(at, c);
                    break;
                case 1:
                    b.deleteCharAt(at);
                    break;
                case 2:
                    b.insert(at, c);
                    break;
                default:
                    b.setLength(at);
                    break;
            }
        }
        return b.length() > 890 ? b.substring(0, 890) : b.toString();
    }

    private boolean call() {
        int kind = upTo(99);
        if (kind < 2) {
            return load(random.nextBoolean() ? spoilt(description()) : description());
        }
        if (kind < 14) {
            return advance(random.nextInt(4) == 0 ? 2000 : 200);
        }
        if (kind < 17) {
            return settings();
        }
        if (kind < 22) {
            return snapshot();
        }
        if (kind < 24) {
            return due("balance()", x.balance(), m.balance()) && all();
        }
        if (kind < 30) {
            int seed = random.nextInt(Integer.MAX_VALUE);
            int permille = upTo(500);
            int seconds = 1 + upTo(random.nextInt(5) == 0 ? 3000 : 600);
            int what = upTo(3);
            return due("simulate(" + seed + ", " + permille + ", " + seconds + ", " + what + ")",
                    x.simulate(seed, permille, seconds, what), m.simulate(seed, permille, seconds, what));
        }
        if (kind < 45) {
            return runwayCall();
        }
        return m.flights.isEmpty() || flightCall();
    }

    private boolean advance(int most) {
        int seconds = 1 + upTo(most - 1);
        int want = m.now + seconds > 200000 ? -2 : m.pass(m.now + seconds);
        return due("advance(" + seconds + ")", x.advance(seconds), want) && all();
    }

    private boolean settings() {
        if (random.nextBoolean()) {
            int shift = upTo(4);
            int previous = m.shift;
            m.shift = shift;
            return due("setShift(" + shift + ")", x.setShift(shift), previous);
        }
        int a = upTo(3);
        int b = upTo(3);
        int seconds = upTo(10) * 20;
        int previous = m.wake[a][b];
        m.wake[a][b] = seconds;
        return due("setWake(" + a + ", " + b + ", " + seconds + ")", x.setWake(a, b, seconds), previous)
                && due("wake(" + a + ", " + b + ")", x.wake(a, b), seconds) && all();
    }

    private boolean snapshot() {
        int slot = upTo(1);
        if (random.nextBoolean()) {
            saved[slot] = m.copy();
            return due("saveSnapshot(" + slot + ")", x.saveSnapshot(slot), m.now);
        }
        int want = -1;
        if (saved[slot] != null) {
            m = saved[slot].copy();
            want = m.now;
        }
        return due("restoreSnapshot(" + slot + ")", x.restoreSnapshot(slot), want) && all();
    }

    private boolean runwayCall() {
        int r = upTo(m.runways - 1);
        switch (upTo(9)) {
            case 0:
                return due("allowedSequences(" + r + ")", x.allowedSequences(r), m.allowed(r).size());
            case 1:
            case 2:
                return due("equalSequences(" + r + ")", x.equalSequences(r), m.equal(r));
            case 3:
                return due("firstComeCost(" + r + ")", x.firstComeCost(r), m.costOfSequence(r, m.firstCome(r)));
            case 4:
                return due("planCost(" + r + ")", x.planCost(r), m.costOfSequence(r, m.plan(r)));
            case 5:
                return due("pastNeighbor()", x.pastNeighbor(), m.pastNeighbor());
            case 6:
                return due("neededShift()", x.neededShift(), m.neededShift());
            case 7: {
                int shift = upTo(4);
                return due("costWithShift(" + shift + ")", x.costWithShift(shift), m.costWithShift(shift));
            }
            case 8: {
                int[] t = m.times(r, m.plan(r));
                return due("lastTime(" + r + ")", x.lastTime(r), t.length == 0 ? -1 : t[t.length - 1]);
            }
            default: {
                int cls = upTo(3);
                int earliest = upTo(2000);
                return due("timeInserted(" + cls + ", " + earliest + ", " + r + ")",
                        x.timeInserted(cls, earliest, r), m.timeInserted(cls, earliest, r));
            }
        }
    }

    private boolean flightCall() {
        int f = upTo(m.flights.size() - 1);
        int r = upTo(m.runways - 1);
        Model.Flight flight = m.flights.get(f);
        switch (upTo(11)) {
            case 0:
                return due("slack(" + f + ")", x.slack(f), m.slack(f));
            case 1:
            case 2:
                return due("binding(" + f + ")", x.binding(f), m.binding(f));
            case 3:
                return due("costIfAssigned(" + f + ", " + r + ")", x.costIfAssigned(f, r), m.costIfAssigned(f, r));
            case 4:
                return due("bestRunway(" + f + ")", x.bestRunway(f), m.bestRunway(f));
            case 5:
                return due("aroundCost(" + f + ")", x.aroundCost(f), m.aroundCost(f));
            case 6:
                return due("latestStart(" + f + ")", x.latestStart(f), m.latestStart(f));
            case 7:
                append(flight.name);
                return due("find()", x.find(), f);
            case 8: {
                long want = flight.state != 0 ? -3 : !m.may(f, r) ? -4 : flight.runway;
                if (want >= 0) {
                    flight.runway = r;
                }
                return due("assign(" + f + ", " + r + ")", x.assign(f, r), want) && all();
            }
            case 9: {
                long want = -3;
                if (random.nextInt(3) > 0) {
                    return true;
                }
                if (flight.state == 0) {
                    flight.state = 3;
                    want = m.flights.stream().filter(g -> g.state == 0).count();
                }
                return due("cancel(" + f + ")", x.cancel(f), want) && all();
            }
            default:
                return goAround(f);
        }
    }

    /** Rather a frozen flight, since few are. */
    private boolean goAround(int chosen) {
        int f = chosen;
        for (int i = 0; i < m.flights.size(); i++) {
            if (m.flights.get(i).state == 1 && random.nextBoolean()) {
                f = i;
            }
        }
        long want = m.flights.get(f).state != 1 ? -3 : !m.flights.get(f).arrival ? -4 : 0;
        boolean right = due("aroundCost(" + f + ")", x.aroundCost(f), m.aroundCost(f));
        if (want == 0) {
            m.turn(f);
            want = m.flights.get(f).earliest;
        }
        return right && due("goAround(" + f + ")", x.goAround(f), want) && all();
    }

    /** Looks at all that can be seen without a prediction. */
    private boolean all() {
        if (quiet && random.nextInt(6) > 0) {
            return true;
        }
        boolean right = due("now()", x.now(), m.now) && due("doneCount()", x.doneCount(), m.done.size())
                && due("shift()", x.shift(), m.shift) && due("runwayCount()", x.runwayCount(), m.runways)
                && due("flightCount()", x.flightCount(), m.flights.size())
                && due("totalCost()", x.totalCost(), m.total()) && due("lateCount()", x.lateCount(), m.lateCount())
                && due("meanDelay()", x.meanDelay(), m.meanDelay())
                && due("isSmooth()", x.isSmooth() ? 1 : 0, m.flights.stream().allMatch(f -> f.around == 0) ? 1 : 0);
        int[] t = m.allTimes();
        for (int i = 0; right && i < t.length; i++) {
            right = flight(i, t[i]);
        }
        for (int i = 0; right && i <= m.done.size(); i++) {
            right = due("doneAt(" + i + ")", x.doneAt(i), i < m.done.size() ? m.done.get(i) : -1);
        }
        for (int r = 0; right && r < m.runways; r++) {
            List<Integer> p = m.plan(r);
            for (int k = 0; right && k <= p.size(); k++) {
                right = due("plannedAt(" + r + ", " + k + ")", x.plannedAt(r, k), k < p.size() ? p.get(k) : -1);
            }
        }
        return right;
    }

    private boolean flight(int i, int t) {
        Model.Flight f = m.flights.get(i);
        boolean gone = f.state == 3;
        int j = upTo(m.flights.size() - 1);
        return due("stateOf(" + i + ")", x.stateOf(i), f.state) && due("timeOf(" + i + ")", x.timeOf(i), t)
                && due("runwayOf(" + i + ")", x.runwayOf(i), f.runway)
                && due("placeOf(" + i + ")", x.placeOf(i), m.placeOf(i))
                && due("firstComePlace(" + i + ")", x.firstComePlace(i), m.firstComePlace(i))
                && due("delay(" + i + ")", x.delay(i), gone ? -1 : t - f.earliest)
                && due("isLate(" + i + ")", x.isLate(i) ? 1 : 0, !gone && t > f.latest ? 1 : 0)
                && due("costOf(" + i + ")", x.costOf(i), gone ? 0f : (float) m.cost(i, t) / 1000f)
                && due("earliest(" + i + ")", x.earliest(i), f.earliest)
                && due("target(" + i + ")", x.target(i), f.target)
                && due("latest(" + i + ")", x.latest(i), f.latest)
                && due("classOf(" + i + ")", x.classOf(i), f.kind)
                && due("isArrival(" + i + ")", x.isArrival(i) ? 1 : 0, f.arrival ? 1 : 0)
                && due("aroundCount(" + i + ")", x.aroundCount(i), f.around)
                && due("nameByte(" + i + ", 0)", x.nameByte(i, 0), f.name.charAt(0))
                && due("separation(" + i + ", " + j + ")", x.separation(i, j), m.sep(i, j));
    }
}
