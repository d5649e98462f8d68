import java.util.ArrayList;
import java.util.Arrays;
import java.util.List;

/**
 * A second, slow reading of the document, written apart from the class: it keeps no plan, tries every permutation of
 * a window, and copies itself for each prediction. ModelTest lets both answer the same calls.
 */
final class Model {
    static final List<String> KINDS = Arrays.asList("super", "heavy", "medium", "light");

    static final class Flight {
        String name;
        boolean arrival;
        int kind;
        int earliest;
        int target;
        int latest;
        int mask;
        int runway;
        int state;
        int frozenTime;
        int around;

        Flight copy() {
            Flight c = new Flight();
            c.name = name;
            c.arrival = arrival;
            c.kind = kind;
            c.earliest = earliest;
            c.target = target;
            c.latest = latest;
            c.mask = mask;
            c.runway = runway;
            c.state = state;
            c.frozenTime = frozenTime;
            c.around = around;
            return c;
        }
    }

    static final class ReadError extends Exception {
        private static final long serialVersionUID = 1L;
        final int kind;
        final int position;

        ReadError(int kind, int position) {
            this.kind = kind;
            this.position = position;
        }
    }

    int runways = 1;
    int mixed = 60;
    int shift = 2;
    int freeze = 120;
    int around = 600;
    int[][] wake = new int[4][4];
    int[] early = {1000, 1000, 1000, 1000};
    int[] late = {2000, 2000, 2000, 2000};
    int now = 0;
    List<Flight> flights = new ArrayList<>();
    List<Integer> done = new ArrayList<>();

    Model() {
        for (int[] row : wake) {
            Arrays.fill(row, 60);
        }
    }

    Model copy() {
        Model c = new Model();
        c.runways = runways;
        c.mixed = mixed;
        c.shift = shift;
        c.freeze = freeze;
        c.around = around;
        for (int i = 0; i < 4; i++) {
            c.wake[i] = wake[i].clone();
        }
        c.early = early.clone();
        c.late = late.clone();
        c.now = now;
        for (Flight f : flights) {
            c.flights.add(f.copy());
        }
        c.done.addAll(done);
        return c;
    }

    // ---- descriptions: the text is cut into tokens first, and an error is looked for token by token

    private static final class Token {
        char type; // w word, n number, ; semicolon, ? another byte, $ the end
        String text;
        int position;
    }

    private static List<Token> tokens(String text) {
        List<Token> list = new ArrayList<>();
        int i = 0;
        while (i < text.length()) {
            char c = text.charAt(i);
            if (c == ' ') {
                i++;
                continue;
            }
            Token t = new Token();
            t.position = i;
            int j = i + 1;
            if (c >= 'a' && c <= 'z') {
                t.type = 'w';
                while (j < text.length() && text.charAt(j) >= 'a' && text.charAt(j) <= 'z') {
                    j++;
                }
            } else if (c >= '0' && c <= '9') {
                t.type = 'n';
                while (j < text.length() && text.charAt(j) >= '0' && text.charAt(j) <= '9') {
                    j++;
                }
            } else {
                t.type = c == ';' ? ';' : '?';
            }
            t.text = text.substring(i, j);
            list.add(t);
            i = j;
        }
        Token end = new Token();
        end.type = '$';
        end.text = "";
        end.position = text.length();
        list.add(end);
        return list;
    }

    private static Token take(List<Token> list, char type) throws ReadError {
        Token t = list.get(0);
        if (t.type != type) {
            throw new ReadError(1, t.position);
        }
        if (type != '$') {
            list.remove(0);
        }
        return t;
    }

    private static int number(List<Token> list, long low, long high) throws ReadError {
        Token t = take(list, 'n');
        java.math.BigInteger v = new java.math.BigInteger(t.text);
        if (v.compareTo(java.math.BigInteger.valueOf(low)) < 0
                || v.compareTo(java.math.BigInteger.valueOf(high)) > 0) {
            throw new ReadError(2, t.position);
        }
        return v.intValue();
    }

    private static int kind(List<Token> list) throws ReadError {
        Token t = take(list, 'w');
        if (!KINDS.contains(t.text)) {
            throw new ReadError(1, t.position);
        }
        return KINDS.indexOf(t.text);
    }

    static Model read(String text) throws ReadError {
        List<Token> list = tokens(text);
        Model m = new Model();
        Token first = take(list, 'w');
        if (!first.text.equals("runways")) {
            throw new ReadError(1, first.position);
        }
        m.runways = number(list, 1, 3);
        while (list.get(0).type != '$') {
            take(list, ';');
            m.statement(list);
        }
        m.deal();
        return m;
    }

    private void statement(List<Token> list) throws ReadError {
        Token t = take(list, 'w');
        switch (t.text) {
            case "wake": {
                int a = kind(list);
                int b = kind(list);
                wake[a][b] = number(list, 0, 600);
                break;
            }
            case "mixed":
                mixed = number(list, 0, 600);
                break;
            case "shift":
                shift = number(list, 0, 4);
                break;
            case "freeze":
                freeze = number(list, 0, 1800);
                break;
            case "around":
                around = number(list, 60, 3600);
                break;
            case "cost": {
                int a = kind(list);
                early[a] = number(list, 0, 9999);
                late[a] = number(list, 0, 9999);
                break;
            }
            case "arrival":
            case "departure":
                flight(list, t);
                break;
            default:
                throw new ReadError(1, t.position);
        }
    }

    private void flight(List<Token> list, Token word) throws ReadError {
        if (flights.size() == 24) {
            throw new ReadError(4, word.position);
        }
        Flight f = new Flight();
        f.arrival = word.text.equals("arrival");
        Token name = take(list, 'w');
        if (name.text.length() > 6) {
            throw new ReadError(1, name.position);
        }
        if (lookUp(name.text) >= 0) {
            throw new ReadError(3, name.position);
        }
        f.name = name.text;
        f.kind = kind(list);
        f.earliest = number(list, 0, 99999);
        f.target = number(list, f.earliest, 99999);
        f.latest = number(list, f.target, 99999);
        f.mask = number(list, 1, runways == 1 ? 1 : runways == 2 ? 3 : 7);
        flights.add(f);
    }

    int lookUp(String name) {
        for (int i = 0; i < flights.size(); i++) {
            if (flights.get(i).name.equals(name)) {
                return i;
            }
        }
        return -1;
    }

    private void deal() {
        List<Integer> all = new ArrayList<>();
        for (int i = 0; i < flights.size(); i++) {
            all.add(i);
        }
        sortByTarget(all);
        int[] load = new int[runways];
        for (int i : all) {
            int best = -1;
            for (int r = runways - 1; r >= 0; r--) {
                if (may(i, r) && (best < 0 || load[r] <= load[best])) {
                    best = r;
                }
            }
            flights.get(i).runway = best;
            load[best]++;
        }
    }

    private void sortByTarget(List<Integer> list) {
        list.sort((a, b) -> {
            int d = Integer.compare(flights.get(a).target, flights.get(b).target);
            return d != 0 ? d : Integer.compare(a, b);
        });
    }

    boolean may(int f, int r) {
        return (flights.get(f).mask / (1 << r)) % 2 == 1;
    }

    // ---- plans

    int sep(int a, int b) {
        Flight f = flights.get(a);
        Flight g = flights.get(b);
        return f.arrival == g.arrival ? wake[f.kind][g.kind] : mixed;
    }

    List<Integer> firstCome(int r) {
        List<Integer> list = new ArrayList<>();
        for (int i = 0; i < flights.size(); i++) {
            if (flights.get(i).state == 0 && flights.get(i).runway == r) {
                list.add(i);
            }
        }
        sortByTarget(list);
        return list;
    }

    int[] times(int r, List<Integer> sequence) {
        int[] t = new int[sequence.size()];
        for (int k = 0; k < t.length; k++) {
            int f = sequence.get(k);
            t[k] = Math.max(now, flights.get(f).earliest);
            for (int g = 0; g < flights.size(); g++) {
                Flight other = flights.get(g);
                if (other.runway == r && (other.state == 1 || other.state == 2)) {
                    t[k] = Math.max(t[k], other.frozenTime + sep(g, f));
                }
            }
            for (int j = 0; j < k; j++) {
                t[k] = Math.max(t[k], t[j] + sep(sequence.get(j), f));
            }
        }
        return t;
    }

    long cost(int i, int t) {
        Flight f = flights.get(i);
        long c;
        if (t < f.target) {
            c = (long) early[f.kind] * (f.target - t);
        } else {
            c = (long) late[f.kind] * (t - f.target);
        }
        return t > f.latest ? c + 1000000000L : c;
    }

    long costOfSequence(int r, List<Integer> sequence) {
        int[] t = times(r, sequence);
        long sum = 0;
        for (int k = 0; k < t.length; k++) {
            sum += cost(sequence.get(k), t[k]);
        }
        return sum;
    }

    List<List<Integer>> allowed(int r) {
        List<Integer> line = firstCome(r);
        List<Integer> window = line.subList(0, Math.min(7, line.size()));
        List<List<Integer>> all = new ArrayList<>();
        permute(window, new ArrayList<>(), all);
        return all;
    }

    private void permute(List<Integer> window, List<Integer> front, List<List<Integer>> all) {
        if (front.size() == window.size()) {
            all.add(new ArrayList<>(front));
            return;
        }
        for (int p = 0; p < window.size(); p++) {
            if (!front.contains(window.get(p)) && Math.abs(p - front.size()) <= shift) {
                front.add(window.get(p));
                permute(window, front, all);
                front.remove(front.size() - 1);
            }
        }
    }

    private static boolean smaller(List<Integer> a, List<Integer> b) {
        for (int k = 0; k < a.size(); k++) {
            if (!a.get(k).equals(b.get(k))) {
                return a.get(k) < b.get(k);
            }
        }
        return false;
    }

    List<Integer> bestWindow(int r) {
        List<Integer> best = null;
        long bestCost = 0;
        for (List<Integer> s : allowed(r)) {
            long c = costOfSequence(r, s);
            if (best == null || c < bestCost || (c == bestCost && smaller(s, best))) {
                best = s;
                bestCost = c;
            }
        }
        return best;
    }

    List<Integer> plan(int r) {
        List<Integer> line = firstCome(r);
        List<Integer> p = new ArrayList<>(bestWindow(r));
        for (int k = 7; k < line.size(); k++) {
            p.add(line.get(k));
        }
        return p;
    }

    /** The times of all flights, -1 for cancelled ones. */
    int[] allTimes() {
        int[] t = new int[flights.size()];
        for (int i = 0; i < t.length; i++) {
            t[i] = flights.get(i).state == 3 ? -1 : flights.get(i).frozenTime;
        }
        for (int r = 0; r < runways; r++) {
            List<Integer> p = plan(r);
            int[] pt = times(r, p);
            for (int k = 0; k < pt.length; k++) {
                t[p.get(k)] = pt[k];
            }
        }
        return t;
    }

    long total() {
        int[] t = allTimes();
        long sum = 0;
        for (int i = 0; i < t.length; i++) {
            if (flights.get(i).state != 3) {
                sum += cost(i, t[i]);
            }
        }
        return sum;
    }

    // ---- time

    int pass(int later) {
        int count = done.size();
        while (true) {
            int next = later;
            for (int r = 0; r < runways; r++) {
                List<Integer> p = plan(r);
                while (!p.isEmpty() && times(r, p)[0] <= now + freeze) {
                    Flight f = flights.get(p.get(0));
                    f.frozenTime = times(r, p)[0];
                    f.state = 1;
                    p = plan(r);
                }
                if (!p.isEmpty()) {
                    next = Math.min(next, times(r, p)[0] - freeze);
                }
            }
            if (now == later) {
                return done.size() - count;
            }
            now = next;
            List<Integer> ready = new ArrayList<>();
            for (int i = 0; i < flights.size(); i++) {
                if (flights.get(i).state == 1 && flights.get(i).frozenTime <= now) {
                    ready.add(i);
                }
            }
            ready.sort((a, b) -> {
                int d = Integer.compare(flights.get(a).frozenTime, flights.get(b).frozenTime);
                return d != 0 ? d : Integer.compare(a, b);
            });
            for (int i : ready) {
                flights.get(i).state = 2;
                done.add(i);
            }
        }
    }

    void turn(int i) {
        Flight f = flights.get(i);
        f.state = 0;
        f.earliest = now + around;
        f.target = Math.max(f.target, f.earliest);
        f.latest = Math.max(f.latest, f.target);
        f.around++;
    }

    // ---- answers

    long timeOf(int f) {
        return allTimes()[f];
    }

    long placeOf(int f) {
        return flights.get(f).state != 0 ? -1 : plan(flights.get(f).runway).indexOf(f);
    }

    long firstComePlace(int f) {
        return flights.get(f).state != 0 ? -1 : firstCome(flights.get(f).runway).indexOf(f);
    }

    float meanDelay() {
        int[] t = allTimes();
        int sum = 0;
        int count = 0;
        for (int i = 0; i < t.length; i++) {
            if (flights.get(i).state != 3) {
                sum += t[i] - flights.get(i).earliest;
                count++;
            }
        }
        return count == 0 ? 0f : (float) sum / (float) count;
    }

    int lateCount() {
        int[] t = allTimes();
        int count = 0;
        for (int i = 0; i < t.length; i++) {
            if (flights.get(i).state != 3 && t[i] > flights.get(i).latest) {
                count++;
            }
        }
        return count;
    }

    long equal(int r) {
        long best = costOfSequence(r, bestWindow(r));
        return allowed(r).stream().filter(s -> costOfSequence(r, s) == best).count();
    }

    /** Tries a second more and more, as the words say, instead of taking a least difference. */
    long slack(int i) {
        if (flights.get(i).state != 0) {
            return -1;
        }
        int r = flights.get(i).runway;
        List<Integer> p = plan(r);
        int k = p.indexOf(i);
        if (k == p.size() - 1) {
            return -1;
        }
        int[] t = times(r, p);
        int more = 0;
        while (true) {
            for (int j = k + 1; j < p.size(); j++) {
                if (t[k] + more + 1 + sep(i, p.get(j)) > t[j]) {
                    return more;
                }
            }
            more++;
        }
    }

    long binding(int i) {
        if (flights.get(i).state != 0) {
            return -1;
        }
        int r = flights.get(i).runway;
        List<Integer> p = plan(r);
        int[] t = allTimes();
        List<Integer> ahead = new ArrayList<>(p.subList(0, p.indexOf(i)));
        for (int g = 0; g < flights.size(); g++) {
            if (flights.get(g).runway == r && (flights.get(g).state == 1 || flights.get(g).state == 2)) {
                ahead.add(g);
            }
        }
        ahead.removeIf(g -> t[g] + sep(g, i) != t[i]);
        return ahead.stream().mapToInt(x -> x).min().orElse(-1);
    }

    long pastNeighbor() {
        int count = 0;
        for (int r = 0; r < runways; r++) {
            List<Integer> p = plan(r);
            int[] t = times(r, p);
            for (int k = 0; k < t.length; k++) {
                int only = Math.max(now, flights.get(p.get(k)).earliest);
                if (k > 0) {
                    only = Math.max(only, t[k - 1] + sep(p.get(k - 1), p.get(k)));
                } else {
                    for (int g = 0; g < flights.size(); g++) {
                        Flight o = flights.get(g);
                        if (o.runway == r && (o.state == 1 || o.state == 2)) {
                            only = Math.max(only, o.frozenTime + sep(g, p.get(k)));
                        }
                    }
                }
                if (t[k] > only) {
                    count++;
                }
            }
        }
        return count;
    }

    long costWithShift(int s) {
        Model c = copy();
        c.shift = s;
        return c.total();
    }

    long neededShift() {
        int s = 0;
        while (costWithShift(s) > costWithShift(4)) {
            s++;
        }
        return s;
    }

    long costIfAssigned(int f, int r) {
        if (flights.get(f).state != 0) {
            return -3;
        }
        if (!may(f, r)) {
            return -4;
        }
        Model c = copy();
        c.flights.get(f).runway = r;
        return c.total();
    }

    long bestRunway(int f) {
        if (flights.get(f).state != 0) {
            return -3;
        }
        int best = -1;
        for (int r = 0; r < runways; r++) {
            if (may(f, r) && (best < 0 || costIfAssigned(f, r) < costIfAssigned(f, best))) {
                best = r;
            }
        }
        return best;
    }

    long balance() {
        int moves = 0;
        while (moves < 10) {
            long least = total();
            int bestFlight = -1;
            int bestRunway = -1;
            for (int f = 0; f < flights.size(); f++) {
                for (int r = 0; r < runways; r++) {
                    if (flights.get(f).state == 0 && may(f, r) && costIfAssigned(f, r) < least) {
                        least = costIfAssigned(f, r);
                        bestFlight = f;
                        bestRunway = r;
                    }
                }
            }
            if (bestFlight < 0) {
                break;
            }
            flights.get(bestFlight).runway = bestRunway;
            moves++;
        }
        return moves;
    }

    long aroundCost(int f) {
        if (flights.get(f).state != 1) {
            return -3;
        }
        if (!flights.get(f).arrival) {
            return -4;
        }
        Model c = copy();
        c.turn(f);
        return c.total() - total();
    }

    long latestStart(int f) {
        if (flights.get(f).state != 0) {
            return -1;
        }
        int answer = -1;
        for (int more = 0; more <= 900; more += 30) {
            Model c = copy();
            c.flights.get(f).earliest += more;
            if (c.flights.get(f).earliest <= c.flights.get(f).latest && c.timeOf(f) <= c.flights.get(f).latest) {
                answer = c.flights.get(f).earliest;
            }
        }
        return answer;
    }

    /** Tries second after second. */
    long timeInserted(int cls, int earliest, int r) {
        int[] t = allTimes();
        int at = Math.max(now, earliest);
        while (true) {
            boolean free = true;
            for (int g = 0; g < t.length; g++) {
                Flight o = flights.get(g);
                if (o.runway == r && o.state != 3) {
                    int ahead = o.arrival ? wake[o.kind][cls] : mixed;
                    int behind = o.arrival ? wake[cls][o.kind] : mixed;
                    free &= at >= t[g] + ahead || t[g] >= at + behind;
                }
            }
            if (free) {
                return at;
            }
            at++;
        }
    }

    long simulate(int seed, int permille, int seconds, int what) {
        Model c = copy();
        long x = seed;
        int turns = 0;
        int end = c.now + seconds;
        while (c.now < end) {
            c.pass(Math.min(end, c.now + 60));
            for (int f = 0; f < c.flights.size(); f++) {
                if (c.flights.get(f).state == 1 && c.flights.get(f).arrival) {
                    x = (1103515245L * x + 12345L) & 0x7fffffffL;
                    if ((x >> 16) % 1000 < permille) {
                        c.turn(f);
                        turns++;
                    }
                }
            }
        }
        return what == 0 ? c.done.size() : what == 1 ? turns : what == 2 ? c.lateCount() : (int) c.meanDelay();
    }
}
