/** Plans the sequences of flights on one to three runways; shared/DOC.md has the promises. */
public final class RunwaySequencer {
    public static final int NONE = -1;
    public static final int FULL = -2;
    public static final int WRONG_STATE = -3;
    public static final int NOT_ALLOWED = -4;

    private static final int MAX_BYTES = 900;
    private static final int MAX_RUNWAYS = 3;
    private static final int MAX_FLIGHTS = 24;
    private static final int MAX_NAME = 6;
    private static final int CLASSES = 4;
    private static final int WINDOW = 7;
    private static final int MAX_SHIFT = 4;
    private static final int MAX_SEPARATION = 600;
    private static final int MAX_READ_TIME = 99999;
    private static final int MAX_TIME = 200000;
    private static final int MAX_PASS = 7200;
    private static final int MINUTE = 60;
    private static final int MAX_PERMILLE = 500;
    private static final int MAX_MOVES = 10;
    private static final int START_STEP = 30;
    private static final int START_STEPS = 30;
    private static final int SNAPSHOTS = 2;
    private static final long LATE_PENALTY = 1000000000L;
    /** Greater than every time, those of simulations too. */
    private static final int NEVER = 2147483647;

    private static final int PLANNED = 0;
    private static final int FROZEN = 1;
    private static final int DONE = 2;
    private static final int CANCELLED = 3;

    private static final int ERROR_SYNTAX = 1;
    private static final int ERROR_RANGE = 2;
    private static final int ERROR_NAME = 3;
    private static final int ERROR_FLIGHTS = 4;

    private final Input input;
    private final Planner planner;
    private final State state;
    /** Where predictions are played through, and where a text is read until it is known to be right. */
    private final State trial;
    private final State[] snapshots;
    private int latestError;

    public RunwaySequencer() {
        input = new Input();
        planner = new Planner();
        state = new State();
        trial = new State();
        snapshots = new State[SNAPSHOTS];
        latestError = 0;
        state.clear();
    }

    public int appendByte(int value) throws IllegalArgumentException {
        if (value < 0 || value > 255) {
            throw new IllegalArgumentException("a byte is 0 to 255");
        }
        if (input.length >= MAX_BYTES) {
            return FULL;
        }
        input.bytes[input.length] = value;
        input.length++;
        return input.length;
    }

    public int load() {
        trial.clear();
        boolean right = Reader.read(input, trial);
        input.length = 0;
        latestError = input.error;
        if (!right) {
            return -100 - input.errorAt;
        }
        trial.assignByTargets();
        state.copyFrom(trial);
        return state.flights.count;
    }

    public int loadError() {
        return latestError;
    }

    public int find() {
        int flight = state.flights.named(input.bytes, 0, input.length);
        input.length = 0;
        return flight;
    }

    public int runwayCount() {
        return state.rules.runways;
    }

    public int flightCount() {
        return state.flights.count;
    }

    public int nameByte(int flight, int index) throws IndexOutOfBoundsException {
        checkFlight(flight);
        if (index < 0 || index >= state.flights.nameLength[flight]) {
            return NONE;
        }
        return state.flights.letters[flight * MAX_NAME + index];
    }

    public boolean isArrival(int flight) throws IndexOutOfBoundsException {
        checkFlight(flight);
        return state.flights.arrives[flight];
    }

    public int classOf(int flight) throws IndexOutOfBoundsException {
        checkFlight(flight);
        return state.flights.kind[flight];
    }

    public int earliest(int flight) throws IndexOutOfBoundsException {
        checkFlight(flight);
        return state.flights.soonest[flight];
    }

    public int target(int flight) throws IndexOutOfBoundsException {
        checkFlight(flight);
        return state.flights.wanted[flight];
    }

    public int latest(int flight) throws IndexOutOfBoundsException {
        checkFlight(flight);
        return state.flights.last[flight];
    }

    public int wake(int leader, int follower) throws IllegalArgumentException {
        checkClass(leader);
        checkClass(follower);
        return state.rules.gaps[leader * CLASSES + follower];
    }

    public int separation(int first, int second) throws IndexOutOfBoundsException {
        checkFlight(first);
        checkFlight(second);
        return state.gapOf(first, second);
    }

    public int longerTriples() {
        int[] gaps = state.rules.gaps;
        int count = 0;
        for (int a = 0; a < CLASSES; a++) {
            for (int b = 0; b < CLASSES; b++) {
                for (int c = 0; c < CLASSES; c++) {
                    if (gaps[a * CLASSES + c] > gaps[a * CLASSES + b] + gaps[b * CLASSES + c]) {
                        count++;
                    }
                }
            }
        }
        return count;
    }

    public int now() {
        return state.present;
    }

    public int advance(int seconds) throws IllegalArgumentException {
        checkSeconds(seconds);
        if (state.present > MAX_TIME - seconds) {
            return FULL;
        }
        return planner.pass(state, state.present + seconds);
    }

    public int shift() {
        return state.rules.reach;
    }

    public int setShift(int shift) throws IllegalArgumentException {
        checkShift(shift);
        int previous = state.rules.reach;
        state.rules.reach = shift;
        state.forgetPlans();
        return previous;
    }

    public int setWake(int leader, int follower, int seconds) throws IllegalArgumentException {
        checkClass(leader);
        checkClass(follower);
        if (seconds < 0 || seconds > MAX_SEPARATION) {
            throw new IllegalArgumentException("a separation is 0 to 600");
        }
        int index = leader * CLASSES + follower;
        int previous = state.rules.gaps[index];
        state.rules.gaps[index] = seconds;
        state.forgetPlans();
        return previous;
    }

    public int runwayOf(int flight) throws IndexOutOfBoundsException {
        checkFlight(flight);
        return state.runway[flight];
    }

    public int assign(int flight, int runway) throws IndexOutOfBoundsException {
        checkFlight(flight);
        checkRunway(runway);
        int error = errorOfMove(flight, runway);
        if (error != 0) {
            return error;
        }
        int previous = state.runway[flight];
        state.moveTo(flight, runway);
        return previous;
    }

    public int cancel(int flight) throws IndexOutOfBoundsException {
        checkFlight(flight);
        if (state.phase[flight] != PLANNED) {
            return WRONG_STATE;
        }
        state.phase[flight] = CANCELLED;
        state.fresh[state.runway[flight]] = false;
        return state.countIn(PLANNED);
    }

    public int goAround(int flight) throws IndexOutOfBoundsException {
        checkFlight(flight);
        int error = errorOfTurn(flight);
        if (error != 0) {
            return error;
        }
        state.turn(flight);
        return state.flights.soonest[flight];
    }

    public int stateOf(int flight) throws IndexOutOfBoundsException {
        checkFlight(flight);
        return state.phase[flight];
    }

    public int timeOf(int flight) throws IndexOutOfBoundsException {
        checkFlight(flight);
        if (state.phase[flight] == CANCELLED) {
            return NONE;
        }
        return planner.timeIn(state, flight);
    }

    public int placeOf(int flight) throws IndexOutOfBoundsException {
        checkFlight(flight);
        if (state.phase[flight] != PLANNED) {
            return NONE;
        }
        planner.refresh(state, state.runway[flight]);
        return state.placeIn(flight);
    }

    public int firstComePlace(int flight) throws IndexOutOfBoundsException {
        checkFlight(flight);
        if (state.phase[flight] != PLANNED) {
            return NONE;
        }
        return planner.placeInLine(state, flight);
    }

    public int plannedAt(int runway, int place) throws IndexOutOfBoundsException {
        checkRunway(runway);
        planner.refresh(state, runway);
        if (place < 0 || place >= state.planned[runway]) {
            return NONE;
        }
        return state.order[runway * MAX_FLIGHTS + place];
    }

    public int delay(int flight) throws IndexOutOfBoundsException {
        checkFlight(flight);
        if (state.phase[flight] == CANCELLED) {
            return NONE;
        }
        return planner.timeIn(state, flight) - state.flights.soonest[flight];
    }

    public boolean isLate(int flight) throws IndexOutOfBoundsException {
        checkFlight(flight);
        if (state.phase[flight] == CANCELLED) {
            return false;
        }
        return planner.timeIn(state, flight) > state.flights.last[flight];
    }

    public float costOf(int flight) throws IndexOutOfBoundsException {
        checkFlight(flight);
        if (state.phase[flight] == CANCELLED) {
            return 0.0f;
        }
        long cost = state.costAt(flight, planner.timeIn(state, flight));
        return (float) cost / 1000f;
    }

    public long totalCost() {
        return planner.wholeCost(state);
    }

    public long planCost(int runway) throws IndexOutOfBoundsException {
        checkRunway(runway);
        planner.refresh(state, runway);
        return state.costAlong(state.order, runway * MAX_FLIGHTS, state.planned[runway], state.time);
    }

    public long firstComeCost(int runway) throws IndexOutOfBoundsException {
        checkRunway(runway);
        return planner.costInLine(state, runway);
    }

    public float meanDelay() {
        planner.refreshAll(state);
        return state.averageDelay();
    }

    public int lateCount() {
        planner.refreshAll(state);
        return state.countLate();
    }

    public int allowedSequences(int runway) throws IndexOutOfBoundsException {
        checkRunway(runway);
        return planner.countAllowed(state, runway);
    }

    public int equalSequences(int runway) throws IndexOutOfBoundsException {
        checkRunway(runway);
        return planner.countEqual(state, runway);
    }

    public int slack(int flight) throws IndexOutOfBoundsException {
        checkFlight(flight);
        if (state.phase[flight] != PLANNED) {
            return NONE;
        }
        planner.refresh(state, state.runway[flight]);
        return state.roomBehind(flight);
    }

    public int binding(int flight) throws IndexOutOfBoundsException {
        checkFlight(flight);
        if (state.phase[flight] != PLANNED) {
            return NONE;
        }
        planner.refresh(state, state.runway[flight]);
        return state.bindingOf(flight);
    }

    public int pastNeighbor() {
        planner.refreshAll(state);
        int count = 0;
        for (int r = 0; r < state.rules.runways; r++) {
            count += state.heldPastNeighbor(r);
        }
        return count;
    }

    public int lastTime(int runway) throws IndexOutOfBoundsException {
        checkRunway(runway);
        planner.refresh(state, runway);
        int count = state.planned[runway];
        if (count <= 0) {
            return NONE;
        }
        return state.time[state.order[runway * MAX_FLIGHTS + count - 1]];
    }

    public int doneCount() {
        return state.doneFlights;
    }

    public int doneAt(int index) {
        if (index < 0 || index >= state.doneFlights) {
            return NONE;
        }
        return state.done[index];
    }

    public int aroundCount(int flight) throws IndexOutOfBoundsException {
        checkFlight(flight);
        return state.turns[flight];
    }

    public boolean isSmooth() {
        for (int f = 0; f < state.flights.count; f++) {
            if (state.turns[f] > 0) {
                return false;
            }
        }
        return true;
    }

    public long costWithShift(int shift) throws IllegalArgumentException {
        checkShift(shift);
        return costWithReach(shift);
    }

    public int neededShift() {
        long aim = costWithReach(MAX_SHIFT);
        for (int shift = 0; shift < MAX_SHIFT; shift++) {
            // Flights behind the window can make a smaller SHIFT even cheaper than 4: that is enough too.
            if (costWithReach(shift) <= aim) {
                return shift;
            }
        }
        return MAX_SHIFT;
    }

    public long costIfAssigned(int flight, int runway) throws IndexOutOfBoundsException {
        checkFlight(flight);
        checkRunway(runway);
        int error = errorOfMove(flight, runway);
        if (error != 0) {
            return error;
        }
        return costMoved(flight, runway);
    }

    public int bestRunway(int flight) throws IndexOutOfBoundsException {
        checkFlight(flight);
        if (state.phase[flight] != PLANNED) {
            return WRONG_STATE;
        }
        int best = state.runway[flight];
        long bestCost = planner.wholeCost(state);
        for (int r = 0; r < state.rules.runways; r++) {
            if (r != state.runway[flight] && state.flights.mayUse(flight, r)) {
                long cost = costMoved(flight, r);
                if (cost < bestCost || (cost == bestCost && r < best)) {
                    bestCost = cost;
                    best = r;
                }
            }
        }
        return best;
    }

    public int balance() {
        int moves = 0;
        while (moves < MAX_MOVES && moveBest()) {
            moves++;
        }
        return moves;
    }

    public long aroundCost(int flight) throws IndexOutOfBoundsException {
        checkFlight(flight);
        int error = errorOfTurn(flight);
        if (error != 0) {
            return error;
        }
        long before = planner.wholeCost(state);
        trial.copyFrom(state);
        trial.turn(flight);
        return planner.wholeCost(trial) - before;
    }

    public int latestStart(int flight) throws IndexOutOfBoundsException {
        checkFlight(flight);
        if (state.phase[flight] != PLANNED) {
            return NONE;
        }
        int last = state.flights.last[flight];
        trial.copyFrom(state);
        for (int step = START_STEPS; step >= 0; step--) {
            int start = state.flights.soonest[flight] + step * START_STEP;
            if (start <= last) {
                trial.flights.soonest[flight] = start;
                trial.fresh[trial.runway[flight]] = false;
                if (planner.timeIn(trial, flight) <= last) {
                    return start;
                }
            }
        }
        return NONE;
    }

    public int timeInserted(int cls, int earliest, int runway)
            throws IndexOutOfBoundsException, IllegalArgumentException {
        checkRunway(runway);
        checkClass(cls);
        if (earliest < 0 || earliest > MAX_TIME) {
            throw new IllegalArgumentException("an earliest time is 0 to 200000");
        }
        planner.refresh(state, runway);
        return state.firstGap(cls, earliest, runway);
    }

    public int simulate(int seed, int permille, int seconds, int what) throws IllegalArgumentException {
        if (seed < 0 || permille < 0 || permille > MAX_PERMILLE || what < 0 || what > 3) {
            throw new IllegalArgumentException("a parameter is out of range");
        }
        checkSeconds(seconds);
        trial.copyFrom(state);
        int turns = 0;
        long random = seed;
        for (int passed = 0; passed < seconds; passed += MINUTE) {
            int rest = seconds - passed;
            planner.pass(trial, trial.present + (rest < MINUTE ? rest : MINUTE));
            for (int f = 0; f < trial.flights.count; f++) {
                if (trial.phase[f] == FROZEN && trial.flights.arrives[f]) {
                    random = (1103515245L * random + 12345L) % 2147483648L;
                    if ((random / 65536L) % 1000L < permille) {
                        trial.turn(f);
                        turns++;
                    }
                }
            }
        }
        return what == 1 ? turns : outcome(what);
    }

    public int saveSnapshot(int slot) throws IllegalArgumentException {
        checkSlot(slot);
        State kept = snapshots[slot];
        if (kept == null) {
            kept = new State();
            snapshots[slot] = kept;
        }
        kept.copyFrom(state);
        return state.present;
    }

    public int restoreSnapshot(int slot) throws IllegalArgumentException {
        checkSlot(slot);
        State kept = snapshots[slot];
        if (kept == null) {
            return NONE;
        }
        state.copyFrom(kept);
        return state.present;
    }

    private void checkFlight(int flight) {
        if (flight < 0 || flight >= state.flights.count) {
            throw new IndexOutOfBoundsException("there is no such flight");
        }
    }

    private void checkRunway(int runway) {
        if (runway < 0 || runway >= state.rules.runways) {
            throw new IndexOutOfBoundsException("there is no such runway");
        }
    }

    private static void checkClass(int kind) {
        if (kind < 0 || kind >= CLASSES) {
            throw new IllegalArgumentException("a class is 0 to 3");
        }
    }

    private static void checkShift(int reach) {
        if (reach < 0 || reach > MAX_SHIFT) {
            throw new IllegalArgumentException("a shift is 0 to 4");
        }
    }

    private static void checkSeconds(int seconds) {
        if (seconds < 1 || seconds > MAX_PASS) {
            throw new IllegalArgumentException("seconds are 1 to 7200");
        }
    }

    private static void checkSlot(int slot) {
        if (slot < 0 || slot >= SNAPSHOTS) {
            throw new IllegalArgumentException("a slot is 0 or 1");
        }
    }

    /** 0 if the flight may be assigned to the runway. */
    private int errorOfMove(int flight, int to) {
        if (state.phase[flight] != PLANNED) {
            return WRONG_STATE;
        }
        return state.flights.mayUse(flight, to) ? 0 : NOT_ALLOWED;
    }

    /** 0 if the flight may go around. */
    private int errorOfTurn(int flight) {
        if (state.phase[flight] != FROZEN) {
            return WRONG_STATE;
        }
        return state.flights.arrives[flight] ? 0 : NOT_ALLOWED;
    }

    private long costWithReach(int reach) {
        trial.copyFrom(state);
        trial.rules.reach = reach;
        trial.forgetPlans();
        return planner.wholeCost(trial);
    }

    private long costMoved(int flight, int to) {
        trial.copyFrom(state);
        trial.moveTo(flight, to);
        return planner.wholeCost(trial);
    }

    /** Makes the one assignment that saves most; false if none saves anything. */
    private boolean moveBest() {
        long least = planner.wholeCost(state);
        int bestFlight = NONE;
        int bestTo = NONE;
        for (int f = 0; f < state.flights.count; f++) {
            for (int r = 0; r < state.rules.runways; r++) {
                if (r != state.runway[f] && errorOfMove(f, r) == 0) {
                    trial.copyFrom(state);
                    trial.moveTo(f, r);
                    long cost = planner.wholeCost(trial);
                    if (cost < least) {
                        least = cost;
                        bestFlight = f;
                        bestTo = r;
                    }
                }
            }
        }
        if (bestFlight == NONE) {
            return false;
        }
        state.moveTo(bestFlight, bestTo);
        return true;
    }

    /** What the trial came to: 0 done flights, 2 late flights, 3 mean delay. */
    private int outcome(int what) {
        if (what == 0) {
            return trial.doneFlights;
        }
        planner.refreshAll(trial);
        return what == 2 ? trial.countLate() : (int) trial.averageDelay();
    }

    /** The input buffer, and the reading of words and numbers from left to right. */
    private static final class Input {
        final int[] bytes = new int[MAX_BYTES];
        int length;
        int at;
        /** Where the word or number that was read last begins. */
        int start;
        int value;
        int error;
        int errorAt;

        void rewind() {
            at = 0;
            error = 0;
        }

        boolean fail(int kind, int position) {
            error = kind;
            errorAt = position;
            return false;
        }

        void skipSpaces() {
            while (at < length && bytes[at] == ' ') {
                at++;
            }
        }

        boolean readWord() {
            skipSpaces();
            start = at;
            while (at < length && bytes[at] >= 'a' && bytes[at] <= 'z') {
                at++;
            }
            return at > start || fail(ERROR_SYNTAX, start);
        }

        boolean readNumber(int low, int high) {
            skipSpaces();
            start = at;
            value = 0;
            while (at < length && bytes[at] >= '0' && bytes[at] <= '9') {
                // Beyond a million a number is out of every range, so more digits need not count.
                if (value < 1000000) {
                    value = value * 10 + bytes[at] - '0';
                }
                at++;
            }
            if (at == start) {
                return fail(ERROR_SYNTAX, start);
            }
            return (value >= low && value <= high) || fail(ERROR_RANGE, start);
        }

        /** Reads a class's name; its number is the value then. */
        boolean readKind() {
            if (!readWord()) {
                return false;
            }
            if (wordIs("super")) {
                value = 0;
            } else if (wordIs("heavy")) {
                value = 1;
            } else if (wordIs("medium")) {
                value = 2;
            } else if (wordIs("light")) {
                value = 3;
            } else {
                return fail(ERROR_SYNTAX, start);
            }
            return true;
        }

        boolean wordIs(String word) {
            if (at - start != word.length()) {
                return false;
            }
            for (int i = 0; i < word.length(); i++) {
                if (bytes[start + i] != word.charAt(i)) {
                    return false;
                }
            }
            return true;
        }
    }

    /** The grammar of descriptions. Each method answers false at the first error. */
    private static final class Reader {
        static boolean read(Input in, State into) {
            in.rewind();
            if (!readRunways(in, into.rules)) {
                return false;
            }
            // Every statement but the first begins with a semicolon, so the text's length bounds them.
            for (int statement = 0; statement <= MAX_BYTES; statement++) {
                in.skipSpaces();
                if (in.at >= in.length) {
                    return true;
                }
                if (in.bytes[in.at] != ';') {
                    return in.fail(ERROR_SYNTAX, in.at);
                }
                in.at++;
                if (!readStatement(in, into)) {
                    return false;
                }
            }
            return true;
        }

        static boolean readRunways(Input in, Rules rules) {
            if (!in.readWord()) {
                return false;
            }
            if (!in.wordIs("runways")) {
                return in.fail(ERROR_SYNTAX, in.start);
            }
            if (!in.readNumber(1, MAX_RUNWAYS)) {
                return false;
            }
            rules.runways = in.value;
            return true;
        }

        static boolean readStatement(Input in, State into) {
            if (!in.readWord()) {
                return false;
            }
            if (in.wordIs("arrival")) {
                return readFlight(in, into, true);
            }
            if (in.wordIs("departure")) {
                return readFlight(in, into, false);
            }
            if (in.wordIs("wake")) {
                return readWake(in, into.rules);
            }
            if (in.wordIs("cost")) {
                return readCost(in, into.rules);
            }
            return readSetting(in, into.rules);
        }

        static boolean readSetting(Input in, Rules rules) {
            if (in.wordIs("mixed")) {
                boolean right = in.readNumber(0, MAX_SEPARATION);
                rules.mixed = in.value;
                return right;
            }
            if (in.wordIs("shift")) {
                boolean right = in.readNumber(0, MAX_SHIFT);
                rules.reach = in.value;
                return right;
            }
            if (in.wordIs("freeze")) {
                boolean right = in.readNumber(0, 1800);
                rules.freeze = in.value;
                return right;
            }
            if (in.wordIs("around")) {
                boolean right = in.readNumber(60, 3600);
                rules.around = in.value;
                return right;
            }
            return in.fail(ERROR_SYNTAX, in.start);
        }

        static boolean readWake(Input in, Rules rules) {
            if (!in.readKind()) {
                return false;
            }
            int leader = in.value;
            if (!in.readKind()) {
                return false;
            }
            int follower = in.value;
            if (!in.readNumber(0, MAX_SEPARATION)) {
                return false;
            }
            rules.gaps[leader * CLASSES + follower] = in.value;
            return true;
        }

        static boolean readCost(Input in, Rules rules) {
            if (!in.readKind()) {
                return false;
            }
            int kind = in.value;
            if (!in.readNumber(0, 9999)) {
                return false;
            }
            rules.early[kind] = in.value;
            if (!in.readNumber(0, 9999)) {
                return false;
            }
            rules.late[kind] = in.value;
            return true;
        }

        static boolean readFlight(Input in, State into, boolean arrives) {
            Flights flights = into.flights;
            int f = flights.count;
            if (f >= MAX_FLIGHTS) {
                return in.fail(ERROR_FLIGHTS, in.start);
            }
            if (!readName(in, flights) || !in.readKind()) {
                return false;
            }
            flights.arrives[f] = arrives;
            flights.kind[f] = in.value;
            if (!readTimes(in, flights, f)) {
                return false;
            }
            if (!in.readNumber(1, (1 << into.rules.runways) - 1)) {
                return false;
            }
            flights.usable[f] = in.value;
            flights.count = f + 1;
            return true;
        }

        static boolean readName(Input in, Flights flights) {
            if (!in.readWord()) {
                return false;
            }
            int size = in.at - in.start;
            if (size > MAX_NAME) {
                return in.fail(ERROR_SYNTAX, in.start);
            }
            if (flights.named(in.bytes, in.start, size) != NONE) {
                return in.fail(ERROR_NAME, in.start);
            }
            flights.nameNext(in.bytes, in.start, size);
            return true;
        }

        static boolean readTimes(Input in, Flights flights, int f) {
            if (!in.readNumber(0, MAX_READ_TIME)) {
                return false;
            }
            flights.soonest[f] = in.value;
            if (!in.readNumber(flights.soonest[f], MAX_READ_TIME)) {
                return false;
            }
            flights.wanted[f] = in.value;
            if (!in.readNumber(flights.wanted[f], MAX_READ_TIME)) {
                return false;
            }
            flights.last[f] = in.value;
            return true;
        }
    }

    /** What a description sets for all flights. */
    private static final class Rules {
        int runways;
        int mixed;
        int reach;
        int freeze;
        int around;
        final int[] gaps = new int[CLASSES * CLASSES];
        final int[] early = new int[CLASSES];
        final int[] late = new int[CLASSES];

        void setDefaults() {
            runways = 1;
            mixed = 60;
            reach = 2;
            freeze = 120;
            around = 600;
            for (int i = 0; i < CLASSES * CLASSES; i++) {
                gaps[i] = 60;
            }
            for (int c = 0; c < CLASSES; c++) {
                early[c] = 1000;
                late[c] = 2000;
            }
        }

        void copyFrom(Rules other) {
            runways = other.runways;
            mixed = other.mixed;
            reach = other.reach;
            freeze = other.freeze;
            around = other.around;
            System.arraycopy(other.gaps, 0, gaps, 0, CLASSES * CLASSES);
            System.arraycopy(other.early, 0, early, 0, CLASSES);
            System.arraycopy(other.late, 0, late, 0, CLASSES);
        }
    }

    /** What a description tells of each flight; going around changes the three times. */
    private static final class Flights {
        int count;
        final int[] letters = new int[MAX_FLIGHTS * MAX_NAME];
        final int[] nameLength = new int[MAX_FLIGHTS];
        final boolean[] arrives = new boolean[MAX_FLIGHTS];
        final int[] kind = new int[MAX_FLIGHTS];
        final int[] soonest = new int[MAX_FLIGHTS];
        final int[] wanted = new int[MAX_FLIGHTS];
        final int[] last = new int[MAX_FLIGHTS];
        final int[] usable = new int[MAX_FLIGHTS];

        void copyFrom(Flights other) {
            count = other.count;
            System.arraycopy(other.letters, 0, letters, 0, count * MAX_NAME);
            System.arraycopy(other.nameLength, 0, nameLength, 0, count);
            for (int f = 0; f < count; f++) {
                arrives[f] = other.arrives[f];
            }
            System.arraycopy(other.kind, 0, kind, 0, count);
            System.arraycopy(other.soonest, 0, soonest, 0, count);
            System.arraycopy(other.wanted, 0, wanted, 0, count);
            System.arraycopy(other.last, 0, last, 0, count);
            System.arraycopy(other.usable, 0, usable, 0, count);
        }

        boolean mayUse(int f, int r) {
            return (usable[f] >> r & 1) == 1;
        }

        int named(int[] bytes, int from, int size) {
            for (int f = 0; f < count; f++) {
                if (nameLength[f] == size && sameLetters(f, bytes, from)) {
                    return f;
                }
            }
            return NONE;
        }

        boolean sameLetters(int f, int[] bytes, int from) {
            for (int i = 0; i < nameLength[f]; i++) {
                if (letters[f * MAX_NAME + i] != bytes[from + i]) {
                    return false;
                }
            }
            return true;
        }

        /** Names the flight that is being read and does not count yet. */
        void nameNext(int[] bytes, int from, int size) {
            nameLength[count] = size;
            for (int i = 0; i < size; i++) {
                letters[count * MAX_NAME + i] = bytes[from + i];
            }
        }

        boolean comesBefore(int f, int g) {
            return wanted[f] < wanted[g] || (wanted[f] == wanted[g] && f < g);
        }
    }

    /** All that time and calls change; the plans of the runways are kept with it until they must be made anew. */
    private static final class State {
        final Rules rules = new Rules();
        final Flights flights = new Flights();
        int present;
        final int[] runway = new int[MAX_FLIGHTS];
        final int[] phase = new int[MAX_FLIGHTS];
        /** Of a planned flight it holds only while its runway's plan is fresh. */
        final int[] time = new int[MAX_FLIGHTS];
        final int[] turns = new int[MAX_FLIGHTS];
        final int[] done = new int[MAX_FLIGHTS];
        int doneFlights;
        final int[] order = new int[MAX_RUNWAYS * MAX_FLIGHTS];
        final int[] planned = new int[MAX_RUNWAYS];
        final boolean[] fresh = new boolean[MAX_RUNWAYS];
        /** Until this time the passing of time alone leaves the plan as it is. */
        final int[] steadyUntil = new int[MAX_RUNWAYS];

        void clear() {
            rules.setDefaults();
            flights.count = 0;
            present = 0;
            doneFlights = 0;
            forgetPlans();
        }

        void copyFrom(State other) {
            rules.copyFrom(other.rules);
            flights.copyFrom(other.flights);
            int count = flights.count;
            present = other.present;
            doneFlights = other.doneFlights;
            System.arraycopy(other.runway, 0, runway, 0, count);
            System.arraycopy(other.phase, 0, phase, 0, count);
            System.arraycopy(other.time, 0, time, 0, count);
            System.arraycopy(other.turns, 0, turns, 0, count);
            System.arraycopy(other.done, 0, done, 0, doneFlights);
            for (int r = 0; r < MAX_RUNWAYS; r++) {
                planned[r] = other.planned[r];
                fresh[r] = other.fresh[r];
                steadyUntil[r] = other.steadyUntil[r];
                System.arraycopy(other.order, r * MAX_FLIGHTS, order, r * MAX_FLIGHTS, planned[r]);
            }
        }

        void forgetPlans() {
            for (int r = 0; r < MAX_RUNWAYS; r++) {
                planned[r] = 0;
                fresh[r] = false;
            }
        }

        /** Behind clear and the reading of a text: plans all flights and deals them out by section 1. */
        void assignByTargets() {
            for (int f = 0; f < flights.count; f++) {
                runway[f] = NONE;
                phase[f] = PLANNED;
                time[f] = 0;
                turns[f] = 0;
            }
            for (int k = 0; k < flights.count; k++) {
                int next = NONE;
                for (int f = 0; f < flights.count; f++) {
                    if (runway[f] == NONE && (next == NONE || flights.comesBefore(f, next))) {
                        next = f;
                    }
                }
                if (next != NONE) {
                    int r = emptiestFor(next);
                    runway[next] = r;
                    planned[r]++;
                }
            }
        }

        int emptiestFor(int f) {
            int best = NONE;
            for (int r = 0; r < rules.runways; r++) {
                if (flights.mayUse(f, r) && (best == NONE || planned[r] < planned[best])) {
                    best = r;
                }
            }
            return best == NONE ? 0 : best;
        }

        int gapOf(int first, int second) {
            if (flights.arrives[first] != flights.arrives[second]) {
                return rules.mixed;
            }
            return rules.gaps[flights.kind[first] * CLASSES + flights.kind[second]];
        }

        long costAt(int f, int at) {
            int kind = flights.kind[f];
            int ahead = flights.wanted[f] - at;
            long cost = ahead > 0 ? (long) rules.early[kind] * ahead : (long) rules.late[kind] * -ahead;
            return at > flights.last[f] ? cost + LATE_PENALTY : cost;
        }

        long costAlong(int[] sequence, int from, int count, int[] when) {
            long sum = 0;
            for (int k = from; k < from + count; k++) {
                sum += costAt(sequence[k], when[sequence[k]]);
            }
            return sum;
        }

        boolean isFixed(int f) {
            return phase[f] == FROZEN || phase[f] == DONE;
        }

        int countIn(int wantedPhase) {
            int count = 0;
            for (int f = 0; f < flights.count; f++) {
                if (phase[f] == wantedPhase) {
                    count++;
                }
            }
            return count;
        }

        int countLate() {
            int count = 0;
            for (int f = 0; f < flights.count; f++) {
                if (phase[f] != CANCELLED && time[f] > flights.last[f]) {
                    count++;
                }
            }
            return count;
        }

        float averageDelay() {
            long sum = 0;
            int count = 0;
            for (int f = 0; f < flights.count; f++) {
                if (phase[f] != CANCELLED) {
                    sum += time[f] - flights.soonest[f];
                    count++;
                }
            }
            return count == 0 ? 0.0f : (float) sum / (float) count;
        }

        void moveTo(int f, int r) {
            fresh[runway[f]] = false;
            fresh[r] = false;
            runway[f] = r;
        }

        void turn(int f) {
            int start = present + rules.around;
            flights.soonest[f] = start;
            if (flights.wanted[f] < start) {
                flights.wanted[f] = start;
            }
            if (flights.last[f] < flights.wanted[f]) {
                flights.last[f] = flights.wanted[f];
            }
            phase[f] = PLANNED;
            turns[f]++;
            fresh[runway[f]] = false;
        }

        void moveClock(int to) {
            present = to;
            for (int r = 0; r < MAX_RUNWAYS; r++) {
                if (steadyUntil[r] < to) {
                    fresh[r] = false;
                }
            }
        }

        void finishDue() {
            for (int k = 0; k < flights.count; k++) {
                int next = NONE;
                for (int f = 0; f < flights.count; f++) {
                    if (phase[f] == FROZEN && time[f] <= present && (next == NONE || time[f] < time[next])) {
                        next = f;
                    }
                }
                if (next == NONE || doneFlights >= MAX_FLIGHTS) {
                    return;
                }
                phase[next] = DONE;
                done[doneFlights] = next;
                doneFlights++;
            }
        }

        int placeIn(int f) {
            int from = runway[f] * MAX_FLIGHTS;
            for (int k = 0; k < planned[runway[f]]; k++) {
                if (order[from + k] == f) {
                    return k;
                }
            }
            return NONE;
        }

        int roomBehind(int f) {
            int from = runway[f] * MAX_FLIGHTS;
            int least = NONE;
            for (int k = placeIn(f) + 1; k < planned[runway[f]]; k++) {
                int g = order[from + k];
                int room = time[g] - gapOf(f, g) - time[f];
                if (least == NONE || room < least) {
                    least = room;
                }
            }
            return least;
        }

        int bindingOf(int f) {
            int place = placeIn(f);
            for (int g = 0; g < flights.count; g++) {
                if (g != f && runway[g] == runway[f] && time[g] + gapOf(g, f) == time[f]) {
                    if (isFixed(g) || (phase[g] == PLANNED && placeIn(g) < place)) {
                        return g;
                    }
                }
            }
            return NONE;
        }

        /** The first of a plan is never held by more than promise 43 grants it, so the count begins behind it. */
        int heldPastNeighbor(int r) {
            int count = 0;
            for (int k = 1; k < planned[r]; k++) {
                int f = order[r * MAX_FLIGHTS + k];
                int ahead = order[r * MAX_FLIGHTS + k - 1];
                int free = flights.soonest[f] > present ? flights.soonest[f] : present;
                if (time[f] > free && time[f] > time[ahead] + gapOf(ahead, f)) {
                    count++;
                }
            }
            return count;
        }

        int firstGap(int kind, int from, int r) {
            int at = from > present ? from : present;
            // A flight that has once pushed the time behind itself does so no more: one round for each is enough.
            for (int round = 0; round < flights.count; round++) {
                for (int f = 0; f < flights.count; f++) {
                    if (runway[f] == r && phase[f] != CANCELLED) {
                        int kindOf = flights.kind[f];
                        boolean lands = flights.arrives[f];
                        int before = lands ? rules.gaps[kind * CLASSES + kindOf] : rules.mixed;
                        int behind = lands ? rules.gaps[kindOf * CLASSES + kind] : rules.mixed;
                        if (at + before > time[f] && at < time[f] + behind) {
                            at = time[f] + behind;
                        }
                    }
                }
            }
            return at;
        }
    }

    /** Makes the plans of a state and lets its time pass. */
    private static final class Planner {
        final Search search = new Search();
        /** The first-come order of the runway at hand. */
        final int[] line = new int[MAX_FLIGHTS];
        final int[] fixed = new int[MAX_FLIGHTS];
        /** By flight, how soon it can be for all but the planned flights ahead of it. */
        final int[] base = new int[MAX_FLIGHTS];
        final int[] when = new int[MAX_FLIGHTS];
        final int[] ways = new int[1 << WINDOW];

        int lineUp(State s, int r) {
            int n = 0;
            for (int f = 0; f < s.flights.count; f++) {
                if (s.phase[f] == PLANNED && s.runway[f] == r) {
                    int k = n;
                    while (k > 0 && s.flights.comesBefore(f, line[k - 1])) {
                        line[k] = line[k - 1];
                        k--;
                    }
                    line[k] = f;
                    n++;
                }
            }
            return n;
        }

        /** Answers the smallest of the bases, NEVER if there are none. */
        int setBases(State s, int r, int n) {
            int m = 0;
            for (int f = 0; f < s.flights.count; f++) {
                if (s.runway[f] == r && s.isFixed(f)) {
                    fixed[m] = f;
                    m++;
                }
            }
            int least = NEVER;
            for (int k = 0; k < n; k++) {
                int f = line[k];
                int at = s.flights.soonest[f] > s.present ? s.flights.soonest[f] : s.present;
                for (int j = 0; j < m; j++) {
                    int free = s.time[fixed[j]] + s.gapOf(fixed[j], f);
                    at = free > at ? free : at;
                }
                base[f] = at;
                least = at < least ? at : least;
            }
            return least;
        }

        /** Times a sequence one flight after the other, behind the bases. */
        void setTimes(State s, int[] sequence, int from, int n, int[] into) {
            for (int k = from; k < from + n; k++) {
                int f = sequence[k];
                int at = base[f];
                for (int j = from; j < k; j++) {
                    int free = into[sequence[j]] + s.gapOf(sequence[j], f);
                    at = free > at ? free : at;
                }
                into[f] = at;
            }
        }

        void refresh(State s, int r) {
            if (s.fresh[r]) {
                return;
            }
            int n = lineUp(s, r);
            s.steadyUntil[r] = setBases(s, r, n);
            search.prepare(s, line, n, base);
            search.findBest();
            int from = r * MAX_FLIGHTS;
            for (int k = 0; k < n; k++) {
                s.order[from + k] = k < search.size ? line[search.best[k]] : line[k];
            }
            s.planned[r] = n;
            setTimes(s, s.order, from, n, s.time);
            s.fresh[r] = true;
        }

        void refreshAll(State s) {
            for (int r = 0; r < s.rules.runways; r++) {
                refresh(s, r);
            }
        }

        int timeIn(State s, int f) {
            if (s.phase[f] == PLANNED) {
                refresh(s, s.runway[f]);
            }
            return s.time[f];
        }

        long wholeCost(State s) {
            for (int r = 0; r < s.rules.runways; r++) {
                refresh(s, r);
            }
            long sum = 0;
            for (int f = 0; f < s.flights.count; f++) {
                if (s.phase[f] != CANCELLED) {
                    sum += s.costAt(f, s.time[f]);
                }
            }
            return sum;
        }

        int placeInLine(State s, int f) {
            int n = lineUp(s, s.runway[f]);
            for (int k = 0; k < n; k++) {
                if (line[k] == f) {
                    return k;
                }
            }
            return NONE;
        }

        long costInLine(State s, int r) {
            int n = lineUp(s, r);
            setBases(s, r, n);
            setTimes(s, line, 0, n, when);
            return s.costAlong(line, 0, n, when);
        }

        /** Counts set by set of the flights that stand in front, which is quicker than sequence by sequence. */
        int countAllowed(State s, int r) {
            int n = lineUp(s, r);
            int size = n < WINDOW ? n : WINDOW;
            int all = (1 << size) - 1;
            for (int set = 0; set <= all; set++) {
                ways[set] = set == 0 ? 1 : 0;
            }
            for (int set = 0; set < all; set++) {
                int place = Integer.bitCount(set);
                for (int i = 0; i < size; i++) {
                    int moved = i > place ? i - place : place - i;
                    if ((set >> i & 1) == 0 && moved <= s.rules.reach) {
                        ways[set | 1 << i] += ways[set];
                    }
                }
            }
            return ways[all];
        }

        int countEqual(State s, int r) {
            int n = lineUp(s, r);
            setBases(s, r, n);
            search.prepare(s, line, n, base);
            search.findBest();
            return search.countAsGood();
        }

        /** Lets time pass by section 4; answers how many flights became done. */
        int pass(State s, int until) {
            int before = s.doneFlights;
            // Each round moves the clock by a second at least.
            for (int round = 0; round <= MAX_PASS; round++) {
                freezeDue(s);
                if (s.present >= until) {
                    break;
                }
                int to = until;
                for (int r = 0; r < s.rules.runways; r++) {
                    if (s.planned[r] > 0) {
                        int stop = s.time[s.order[r * MAX_FLIGHTS]] - s.rules.freeze;
                        to = stop < to ? stop : to;
                    }
                }
                s.moveClock(to);
                s.finishDue();
            }
            return s.doneFlights - before;
        }

        void freezeDue(State s) {
            for (int r = 0; r < s.rules.runways; r++) {
                refresh(s, r);
                for (int k = 0; k < MAX_FLIGHTS && s.planned[r] > 0; k++) {
                    int first = s.order[r * MAX_FLIGHTS];
                    if (s.time[first] > s.present + s.rules.freeze) {
                        break;
                    }
                    s.phase[first] = FROZEN;
                    s.fresh[r] = false;
                    refresh(s, r);
                }
            }
        }
    }

    /** The search through the allowed sequences of a window, whose flights go by their first-come places. */
    private static final class Search {
        int size;
        int reach;
        /** The places in the order of the flights' numbers, so that the first of equal sequences is the smallest. */
        final int[] byNumber = new int[WINDOW];
        final int[] gaps = new int[WINDOW * WINDOW];
        final int[] wanted = new int[WINDOW];
        final int[] last = new int[WINDOW];
        final int[] early = new int[WINDOW];
        final int[] late = new int[WINDOW];
        /** A row for each depth: how soon each flight can be behind those that stand already. */
        final int[] soonest = new int[(WINDOW + 1) * WINDOW];
        final long[] spent = new long[WINDOW + 1];
        final int[] chosen = new int[WINDOW];
        final int[] best = new int[WINDOW];
        /** A sequence that costs more is of no use any more. */
        long limit;
        boolean counting;
        int found;

        void prepare(State s, int[] line, int n, int[] base) {
            size = n < WINDOW ? n : WINDOW;
            reach = s.rules.reach;
            spent[0] = 0;
            for (int i = 0; i < size; i++) {
                int f = line[i];
                int kind = s.flights.kind[f];
                wanted[i] = s.flights.wanted[f];
                last[i] = s.flights.last[f];
                early[i] = s.rules.early[kind];
                late[i] = s.rules.late[kind];
                soonest[i] = base[f];
                for (int j = 0; j < size; j++) {
                    gaps[i * WINDOW + j] = s.gapOf(f, line[j]);
                }
                int k = i;
                while (k > 0 && line[byNumber[k - 1]] > f) {
                    byNumber[k] = byNumber[k - 1];
                    k--;
                }
                byNumber[k] = i;
            }
        }

        void findBest() {
            counting = false;
            // The first-come order is always allowed, so nothing dearer need be looked at.
            for (int i = 0; i < size; i++) {
                put(i, i, (1 << i) - 1);
            }
            limit = spent[size];
            place(this, 0, 0);
        }

        /** Only behind findBest, which leaves the limit just below the best cost. */
        int countAsGood() {
            counting = true;
            found = 0;
            limit++;
            place(this, 0, 0);
            return found;
        }

        private static void place(Search s, int depth, int used) {
            if (depth >= s.size) {
                s.accept();
                return;
            }
            int due = depth - s.reach;
            boolean mustBeDue = due >= 0 && (used >> due & 1) == 0;
            for (int k = 0; k < s.size; k++) {
                int i = s.byNumber[k];
                boolean open = (used >> i & 1) == 0 && i - depth <= s.reach;
                if (open && (i == due || !mustBeDue) && s.put(i, depth, used) <= s.limit) {
                    s.chosen[depth] = i;
                    place(s, depth + 1, used | 1 << i);
                }
            }
        }

        /** Puts a flight at a place; answers what the sequence will cost at least. */
        private long put(int i, int depth, int used) {
            int row = depth * WINDOW;
            int at = soonest[row + i];
            long least = spent[depth] + price(i, at);
            spent[depth + 1] = least;
            for (int j = 0; j < size; j++) {
                if (j != i && (used >> j & 1) == 0) {
                    int free = at + gaps[i * WINDOW + j];
                    if (free < soonest[row + j]) {
                        free = soonest[row + j];
                    }
                    soonest[row + WINDOW + j] = free;
                    if (free > wanted[j]) {
                        least += price(j, free);
                    }
                }
            }
            return least;
        }

        private long price(int i, int at) {
            int ahead = wanted[i] - at;
            long cost = ahead > 0 ? (long) early[i] * ahead : (long) late[i] * -ahead;
            return at > last[i] ? cost + LATE_PENALTY : cost;
        }

        private void accept() {
            if (counting) {
                found++;
                return;
            }
            limit = spent[size] - 1;
            for (int k = 0; k < size; k++) {
                best[k] = chosen[k];
            }
        }
    }
}
