import java.math.BigInteger;
import java.util.ArrayDeque;
import java.util.ArrayList;
import java.util.Arrays;
import java.util.Deque;
import java.util.List;
import java.util.NoSuchElementException;
import java.util.Set;
import java.util.TreeSet;

/**
 * The document once more, in the most literal way and with the whole Java library: ballots are lists of sets,
 * fractions are pairs of BigIntegers, orders are tried one by one, and a change is undone by a copy of everything.
 */
final class Model {
    static final int NONE = -1;

    static final class Kind {
        List<Set<Integer>> groups = new ArrayList<>();
        Set<Integer> approved = new TreeSet<>();
        int count;

        Kind copy() {
            Kind k = new Kind();
            k.groups = groups;
            k.approved = approved;
            k.count = count;
            return k;
        }

        boolean sameAs(Kind other) {
            return groups.equals(other.groups) && approved.equals(other.approved);
        }

        int rank(int candidate) {
            for (int g = 0; g < groups.size(); g++) {
                if (groups.get(g).contains(candidate)) {
                    return g;
                }
            }
            return groups.size();
        }

        /** As if the candidate did not exist. */
        Kind without(int candidate) {
            Kind k = new Kind();
            k.count = count;
            for (Set<Integer> group : groups) {
                Set<Integer> rest = new TreeSet<>(group);
                rest.remove(candidate);
                if (!rest.isEmpty()) {
                    k.groups.add(rest);
                }
            }
            k.approved = new TreeSet<>(approved);
            k.approved.remove(candidate);
            return k;
        }
    }

    static final class Fraction {
        final BigInteger num;
        final BigInteger den;
        static final Fraction ZERO = new Fraction(BigInteger.ZERO, BigInteger.ONE);

        Fraction(BigInteger n, BigInteger d) {
            BigInteger g = n.gcd(d);
            num = g.signum() == 0 ? n : n.divide(g);
            den = g.signum() == 0 ? d : d.divide(g);
        }

        static Fraction of(long n) {
            return new Fraction(BigInteger.valueOf(n), BigInteger.ONE);
        }

        Fraction plus(Fraction o) {
            return new Fraction(num.multiply(o.den).add(o.num.multiply(den)), den.multiply(o.den));
        }

        Fraction minus(Fraction o) {
            return new Fraction(num.multiply(o.den).subtract(o.num.multiply(den)), den.multiply(o.den));
        }

        Fraction times(Fraction o) {
            return new Fraction(num.multiply(o.num), den.multiply(o.den));
        }

        Fraction over(Fraction o) {
            return new Fraction(num.multiply(o.den), den.multiply(o.num));
        }

        int compareTo(Fraction o) {
            return num.multiply(o.den).compareTo(o.num.multiply(den));
        }

        String text() {
            return den.equals(BigInteger.ONE) ? num.toString() : num + "/" + den;
        }
    }

    static final class Parcel {
        Fraction weight;
        final int kind;

        Parcel(Fraction w, int k) {
            weight = w;
            kind = k;
        }
    }

    /** A count by the transferable vote, never changed after it was made. */
    static final class Count {
        int quota;
        List<Integer> elected = new ArrayList<>();
        List<Integer> excluded = new ArrayList<>();
        List<List<Fraction>> piles = new ArrayList<>();
    }

    static final class Seats {
        int[] got = new int[8];
        List<Integer> order = new ArrayList<>();
        boolean allied;
        int units;
    }

    static final class State {
        List<Integer> lots = new ArrayList<>();
        List<Kind> kinds = new ArrayList<>();
        List<int[]> lists = new ArrayList<>(); // votes, alliance, lot
        Seats seats = new Seats();
        Count count;
        List<int[]> wards = new ArrayList<>();
        List<Integer> members = new ArrayList<>();
        int quota = 1;

        State copy() {
            State s = new State();
            s.lots.addAll(lots);
            for (Kind k : kinds) {
                s.kinds.add(k.copy());
            }
            for (int[] l : lists) {
                s.lists.add(l.clone());
            }
            s.seats = seats;
            s.count = count;
            s.wards.addAll(wards);
            s.members.addAll(members);
            s.quota = quota;
            return s;
        }
    }

    private State s = new State();
    private final Deque<State> history = new ArrayDeque<>();
    private String text = "";
    private String output = "";

    private void changing() {
        history.addLast(s.copy());
        if (history.size() > 20) {
            history.removeFirst();
        }
    }

    private static void index(int i, int size) {
        if (i < 0 || i >= size) {
            throw new IndexOutOfBoundsException();
        }
    }

    private static void range(boolean in) {
        if (!in) {
            throw new IllegalArgumentException();
        }
    }

    private static void state(boolean good) {
        if (!good) {
            throw new IllegalStateException();
        }
    }

    private static void element(boolean is) {
        if (!is) {
            throw new NoSuchElementException();
        }
    }

    private int n() {
        return s.lots.size();
    }

    public int candidate() {
        state(n() < 8);
        changing();
        s.lots.add(n());
        return n() - 1;
    }

    public int setLot(boolean isList, int number, int lot) {
        index(number, isList ? s.lists.size() : n());
        range(lot >= 0 && lot <= 99);
        changing();
        if (isList) {
            int before = s.lists.get(number)[2];
            s.lists.get(number)[2] = lot;
            return before;
        }
        return s.lots.set(number, lot);
    }

    public int type(long bytes) {
        StringBuilder more = new StringBuilder();
        for (int i = 7; i >= 0; i--) {
            int b = (int) ((bytes >>> (8 * i)) & 0xff);
            if (b != 0) {
                more.append((char) b);
            }
        }
        state(text.length() + more.length() <= 30);
        text += more;
        return text.length();
    }

    private int parseError;

    /** Null with parseError set, if the text isn't a ballot. */
    private Kind parse() {
        parseError = NONE;
        Kind k = new Kind();
        if (text.isEmpty()) {
            return k;
        }
        int at = 0;
        boolean bar = false;
        Set<Integer> seen = new TreeSet<>();
        Set<Integer> group = new TreeSet<>();
        while (true) {
            if (at == text.length()) {
                parseError = at;
                return null;
            }
            int c = text.charAt(at) - 'A';
            if (c < 0 || c >= n() || seen.contains(c)) {
                parseError = at;
                return null;
            }
            seen.add(c);
            group.add(c);
            at++;
            if (at == text.length()) {
                k.groups.add(group);
                if (!bar) {
                    k.approved.addAll(k.groups.get(0));
                }
                return k;
            }
            char sign = text.charAt(at);
            if (sign == '=') {
                at++;
                continue;
            }
            if (sign != '>' && (sign != '|' || bar)) {
                parseError = at;
                return null;
            }
            k.groups.add(group);
            group = new TreeSet<>();
            if (sign == '|') {
                bar = true;
                k.approved.addAll(seen);
            }
            at++;
        }
    }

    private int find(Kind like) {
        for (int i = 0; i < s.kinds.size(); i++) {
            if (s.kinds.get(i).sameAs(like)) {
                return i;
            }
        }
        return NONE;
    }

    public int ballots(int count) {
        range(count >= 1 && count <= 100000);
        Kind k = parse();
        if (k == null) {
            text = "";
            return -3 - parseError;
        }
        int i = find(k);
        state(i == NONE ? s.kinds.size() < 30 : s.kinds.get(i).count + count <= 1000000);
        changing();
        text = "";
        if (i == NONE) {
            i = s.kinds.size();
            s.kinds.add(k);
        }
        s.kinds.get(i).count += count;
        return i;
    }

    public int takeBack(int kind, int count) {
        index(kind, s.kinds.size());
        range(count >= 1 && count <= s.kinds.get(kind).count);
        changing();
        s.kinds.get(kind).count -= count;
        return s.kinds.get(kind).count;
    }

    public int countOf(int kind) {
        index(kind, s.kinds.size());
        return s.kinds.get(kind).count;
    }

    public int kindAt(int kind, int candidate, boolean isRank) {
        index(kind, s.kinds.size());
        index(candidate, n());
        Kind k = s.kinds.get(kind);
        return isRank ? k.rank(candidate) : k.approved.contains(candidate) ? 1 : 0;
    }

    private static int total(List<Kind> kinds) {
        int sum = 0;
        for (Kind k : kinds) {
            sum += k.count;
        }
        return sum;
    }

    public int allBallots() {
        return total(s.kinds);
    }

    // ---- lists

    public int list(int votes) {
        range(votes >= 0 && votes <= 10000000);
        state(s.lists.size() < 8);
        changing();
        s.lists.add(new int[] {votes, 0, s.lists.size()});
        return s.lists.size() - 1;
    }

    public int setVotes(int list, int votes) {
        index(list, s.lists.size());
        range(votes >= 0 && votes <= 10000000);
        changing();
        int before = s.lists.get(list)[0];
        s.lists.get(list)[0] = votes;
        return before;
    }

    public int ally(int list, int alliance) {
        index(list, s.lists.size());
        range(alliance >= 0 && alliance <= 4);
        changing();
        int before = s.lists.get(list)[1];
        s.lists.get(list)[1] = alliance;
        return before;
    }

    private static Fraction divisor(int method, int place) {
        BigInteger ten = BigInteger.TEN;
        long[][] firsts = {{10, 20, 30}, {10, 30, 50}, {14, 30, 50}, {10, 40, 70}, {20, 30, 40}};
        long step = firsts[method][2] - firsts[method][1];
        long tenths = place == 0 ? firsts[method][0] : firsts[method][1] + step * (place - 1);
        return new Fraction(BigInteger.valueOf(tenths), ten);
    }

    /** Rows of number, votes, lot; answers the numbers in the order in which the seats are given. */
    private static List<Integer> share(int method, int seats, List<long[]> rows) {
        List<Integer> order = new ArrayList<>();
        if (rows.isEmpty()) {
            return order;
        }
        int[] got = new int[rows.size()];
        if (method < 5) {
            for (int i = 0; i < seats; i++) {
                int best = 0;
                for (int r = 1; r < rows.size(); r++) {
                    Fraction a = Fraction.of(rows.get(r)[1]).over(divisor(method, got[r]));
                    Fraction b = Fraction.of(rows.get(best)[1]).over(divisor(method, got[best]));
                    if (a.compareTo(b) > 0 || a.compareTo(b) == 0 && tie(rows.get(r), rows.get(best))) {
                        best = r;
                    }
                }
                got[best]++;
                order.add((int) rows.get(best)[0]);
            }
            return order;
        }
        long all = 0;
        for (long[] row : rows) {
            all += row[1];
        }
        for (long[] row : rows) {
            for (long i = 0; i < row[1] * seats / all; i++) {
                order.add((int) row[0]);
            }
        }
        final long sum = all;
        List<long[]> sorted = new ArrayList<>(rows);
        sorted.sort((a, b) -> {
            int byRest = Long.compare(b[1] * seats % sum, a[1] * seats % sum);
            return byRest != 0 ? byRest : tie(a, b) ? -1 : 1;
        });
        for (int i = 0; order.size() < seats; i++) {
            order.add((int) sorted.get(i)[0]);
        }
        return order;
    }

    private static boolean tie(long[] a, long[] b) {
        if (a[1] != b[1]) {
            return a[1] > b[1];
        }
        return a[2] != b[2] ? a[2] < b[2] : a[0] < b[0];
    }

    private Seats distribute(int method, int seats, int threshold) {
        Seats result = new Seats();
        long all = 0;
        for (int[] l : s.lists) {
            all += l[0];
        }
        List<long[]> units = new ArrayList<>();
        List<List<long[]>> parts = new ArrayList<>();
        List<Integer> alliances = new ArrayList<>();
        for (int i = 0; i < s.lists.size(); i++) {
            int[] l = s.lists.get(i);
            long[] row = {i, l[0], l[2]};
            int known = l[1] == 0 ? -1 : alliances.indexOf(l[1]);
            if (known < 0) {
                units.add(row.clone());
                parts.add(new ArrayList<>(List.of(row)));
                alliances.add(l[1]);
            } else {
                units.get(known)[1] += l[0];
                parts.get(known).add(row);
            }
        }
        List<long[]> taking = new ArrayList<>();
        for (int u = 0; u < units.size(); u++) {
            if (units.get(u)[1] > 0 && units.get(u)[1] * 100 >= threshold * all) {
                taking.add(units.get(u));
                result.allied |= parts.get(u).size() > 1;
            }
        }
        result.units = taking.size();
        result.order = share(method, seats, taking);
        for (long[] unit : taking) {
            int won = 0;
            for (int number : result.order) {
                won += number == unit[0] ? 1 : 0;
            }
            List<long[]> withVotes = new ArrayList<>(parts.get(units.indexOf(unit)));
            withVotes.removeIf(row -> row[1] == 0);
            for (int number : share(method, won, withVotes)) {
                result.got[number]++;
            }
        }
        return result;
    }

    public int seats(int method, int seats, int threshold) {
        range(method >= 0 && method <= 5);
        range(seats >= 1 && seats <= 60);
        range(threshold >= 0 && threshold <= 20);
        changing();
        s.seats = distribute(method, seats, threshold);
        return s.seats.units;
    }

    public int seatsOf(int list) {
        index(list, s.lists.size());
        return s.seats.got[list];
    }

    public int seatAt(int index) {
        element(!s.seats.allied && index >= 0 && index < s.seats.order.size());
        return s.seats.order.get(index);
    }

    public int lossAt(int most) {
        range(most >= 1 && most <= 60);
        for (int house = 1; house <= most; house++) {
            int[] now = distribute(5, house, 0).got;
            int[] next = distribute(5, house + 1, 0).got;
            for (int i = 0; i < 8; i++) {
                if (now[i] > next[i]) {
                    return house;
                }
            }
        }
        return NONE;
    }

    // ---- the transferable vote

    private boolean wins(int a, int b) {
        int x = s.lots.get(a);
        int y = s.lots.get(b);
        return x < y || x == y && a < b;
    }

    private final class Counter {
        final Count result = new Count();
        final List<List<Parcel>> at = new ArrayList<>();
        final Set<Integer> hopeful = new TreeSet<>();
        Fraction exhausted = Fraction.ZERO;

        Fraction pile(int c) {
            Fraction sum = Fraction.ZERO;
            for (Parcel p : at.get(c)) {
                sum = sum.plus(p.weight);
            }
            return sum;
        }

        void pass(int kind, Fraction weight) {
            for (Set<Integer> group : s.kinds.get(kind).groups) {
                Set<Integer> takers = new TreeSet<>(group);
                takers.retainAll(hopeful);
                if (!takers.isEmpty()) {
                    for (int c : takers) {
                        at.get(c).add(new Parcel(weight.over(Fraction.of(takers.size())), kind));
                    }
                    return;
                }
            }
            exhausted = exhausted.plus(weight);
        }

        void keep() {
            List<Fraction> now = new ArrayList<>();
            for (int c = 0; c < n(); c++) {
                now.add(pile(c));
            }
            now.add(exhausted);
            result.piles.add(now);
        }

        Count run(int seats) {
            for (int c = 0; c < n(); c++) {
                at.add(new ArrayList<>());
                hopeful.add(c);
            }
            for (int k = 0; k < s.kinds.size(); k++) {
                pass(k, Fraction.of(s.kinds.get(k).count));
            }
            result.quota = total(s.kinds) / (seats + 1) + 1;
            Fraction quota = Fraction.of(result.quota);
            keep();
            while (result.elected.size() < seats && !hopeful.isEmpty()) {
                int best = NONE;
                int worst = NONE;
                for (int c : hopeful) {
                    if (best == NONE || pile(c).compareTo(pile(best)) > 0
                            || pile(c).compareTo(pile(best)) == 0 && wins(c, best)) {
                        best = c;
                    }
                    if (worst == NONE || pile(c).compareTo(pile(worst)) < 0
                            || pile(c).compareTo(pile(worst)) == 0 && wins(worst, c)) {
                        worst = c;
                    }
                }
                if (hopeful.size() <= seats - result.elected.size()) {
                    hopeful.remove(best);
                    result.elected.add(best);
                } else if (pile(best).compareTo(quota) >= 0) {
                    hopeful.remove(best);
                    result.elected.add(best);
                    Fraction pile = pile(best);
                    Fraction part = pile.minus(quota).over(pile);
                    for (Parcel p : at.get(best)) {
                        Fraction passed = p.weight.times(part);
                        p.weight = p.weight.minus(passed);
                        pass(p.kind, passed);
                    }
                } else {
                    hopeful.remove(worst);
                    result.excluded.add(worst);
                    List<Parcel> parcels = at.set(worst, new ArrayList<>());
                    for (Parcel p : parcels) {
                        pass(p.kind, p.weight);
                    }
                }
                keep();
            }
            return result;
        }
    }

    public int transferable(int seats) {
        range(seats >= 1 && seats <= 3);
        state(n() > 0);
        changing();
        s.count = new Counter().run(seats);
        return s.count.elected.size();
    }

    public int quota() {
        return s.count == null ? NONE : s.count.quota;
    }

    public int electedAt(int index) {
        element(s.count != null && index >= 0 && index < s.count.elected.size());
        return s.count.elected.get(index);
    }

    public int excludedAt(int index) {
        element(s.count != null && index >= 0 && index < s.count.excluded.size());
        return s.count.excluded.get(index);
    }

    public int steps() {
        return s.count == null ? 0 : s.count.piles.size() - 1;
    }

    public int writePile(int step, int candidate) {
        index(candidate + 1, n() + 1);
        element(s.count != null && step >= 0 && step < s.count.piles.size());
        List<Fraction> now = s.count.piles.get(step);
        Fraction pile = candidate == NONE ? now.get(now.size() - 1)
            : candidate < now.size() - 1 ? now.get(candidate) : Fraction.ZERO;
        output = pile.text();
        return output.length();
    }

    public int outputByte(int index) {
        return index < 0 || index >= output.length() ? NONE : output.charAt(index);
    }

    public int solidQuotas(int candidates) {
        range(candidates > 0 && candidates < 1 << n());
        state(s.count != null);
        int sum = 0;
        for (Kind k : s.kinds) {
            boolean solid = true;
            for (int a = 0; a < n(); a++) {
                for (int b = 0; b < n(); b++) {
                    boolean inside = (candidates >> a & 1) == 1;
                    boolean outside = (candidates >> b & 1) == 0;
                    solid &= !inside || !outside || k.rank(a) < k.rank(b);
                }
            }
            sum += solid ? k.count : 0;
        }
        return Math.min(sum / s.count.quota, Integer.bitCount(candidates));
    }

    // ---- pairs

    private static int d(List<Kind> kinds, int a, int b) {
        int sum = 0;
        for (Kind k : kinds) {
            sum += k.rank(a) < k.rank(b) ? k.count : 0;
        }
        return sum;
    }

    private static boolean beats(List<Kind> kinds, int a, int b) {
        return d(kinds, a, b) > d(kinds, b, a);
    }

    public int ahead(int candidate, int other) {
        index(candidate, n());
        index(other, n());
        return d(s.kinds, candidate, other);
    }

    public int beatsAll() {
        for (int c = 0; c < n(); c++) {
            boolean all = true;
            for (int o = 0; o < n(); o++) {
                all &= o == c || beats(s.kinds, c, o);
            }
            if (all) {
                return c;
            }
        }
        return NONE;
    }

    /** Widest paths by letting strengths grow until nothing changes. */
    private static int[][] paths(List<Kind> kinds, List<Integer> present) {
        int[][] p = new int[8][8];
        int[][] step = new int[8][8];
        for (int a : present) {
            for (int b : present) {
                step[a][b] = beats(kinds, a, b) ? d(kinds, a, b) : 0;
                p[a][b] = step[a][b];
            }
        }
        boolean changed = true;
        while (changed) {
            changed = false;
            for (int a : present) {
                for (int m : present) {
                    for (int b : present) {
                        int strength = Math.min(p[a][m], step[m][b]);
                        if (a != b && strength > p[a][b]) {
                            p[a][b] = strength;
                            changed = true;
                        }
                    }
                }
            }
        }
        return p;
    }

    private List<Integer> everybody() {
        List<Integer> all = new ArrayList<>();
        for (int c = 0; c < n(); c++) {
            all.add(c);
        }
        return all;
    }

    public int strongestPath(int candidate, int other) {
        index(candidate, n());
        index(other, n());
        return paths(s.kinds, everybody())[candidate][other];
    }

    private static List<Integer> byPaths(List<Kind> kinds, List<Integer> present) {
        int[][] p = paths(kinds, present);
        List<Integer> winners = new ArrayList<>();
        for (int a : present) {
            boolean wins = true;
            for (int b : present) {
                wins &= p[b][a] <= p[a][b];
            }
            if (wins) {
                winners.add(a);
            }
        }
        return winners;
    }

    public int pathWinners() {
        int set = 0;
        for (int c : byPaths(s.kinds, everybody())) {
            set |= 1 << c;
        }
        return set;
    }

    public int beatingSet() {
        int best = (1 << n()) - 1;
        for (int set = 1; set < 1 << n(); set++) {
            boolean good = true;
            for (int a = 0; a < n(); a++) {
                for (int b = 0; b < n(); b++) {
                    if ((set >> a & 1) == 1 && (set >> b & 1) == 0) {
                        good &= beats(s.kinds, a, b);
                    }
                }
            }
            if (good && Integer.bitCount(set) < Integer.bitCount(best)) {
                best = set;
            }
        }
        return best;
    }

    private long bestDistance;
    private int[] bestOrder;

    private void tryOrders(int[] order, int place, long distance, int[][] d) {
        if (distance >= bestDistance) {
            return;
        }
        if (place == n()) {
            bestDistance = distance;
            bestOrder = order.clone();
            return;
        }
        for (int c = 0; c < n(); c++) {
            boolean used = false;
            long more = 0;
            for (int i = 0; i < place; i++) {
                used |= order[i] == c;
                more += d[c][order[i]];
            }
            if (!used) {
                order[place] = c;
                tryOrders(order, place + 1, distance + more, d);
            }
        }
    }

    private void consensus() {
        bestDistance = Long.MAX_VALUE;
        bestOrder = new int[0];
        int[][] d = new int[8][8];
        for (int a = 0; a < n(); a++) {
            for (int b = 0; b < n(); b++) {
                d[a][b] = d(s.kinds, a, b);
            }
        }
        tryOrders(new int[n()], 0, 0, d);
    }

    public int consensusAt(int index) {
        element(index >= 0 && index < n());
        consensus();
        return bestOrder[index];
    }

    public long consensusDistance() {
        consensus();
        return bestDistance;
    }

    // ---- single winners

    private static int firsts(List<Kind> kinds, int c) {
        int sum = 0;
        for (Kind k : kinds) {
            sum += !k.groups.isEmpty() && k.groups.get(0).equals(Set.of(c)) ? k.count : 0;
        }
        return sum;
    }

    private static int points(List<Kind> kinds, List<Integer> present, int c) {
        int sum = 0;
        for (Kind k : kinds) {
            for (int o : present) {
                if (o != c) {
                    sum += k.count * (k.rank(c) < k.rank(o) ? 2 : k.rank(c) == k.rank(o) ? 1 : 0);
                }
            }
        }
        return sum;
    }

    private static int approvals(List<Kind> kinds, int c) {
        int sum = 0;
        for (Kind k : kinds) {
            sum += k.approved.contains(c) ? k.count : 0;
        }
        return sum;
    }

    private static int has(List<Kind> kinds, List<Integer> present, int way, int c) {
        return way == 0 ? firsts(kinds, c) : way == 3 ? points(kinds, present, c) : approvals(kinds, c);
    }

    private List<Integer> runoff(List<Kind> kinds, List<Integer> present) {
        List<Integer> left = new ArrayList<>(present);
        List<Integer> gone = new ArrayList<>();
        while (left.size() > 1) {
            int worst = NONE;
            int least = 0;
            for (int c : left) {
                int own = 0;
                for (Kind k : kinds) {
                    boolean alone = true;
                    for (int o : left) {
                        alone &= o == c || k.rank(c) < k.rank(o);
                    }
                    own += alone ? k.count : 0;
                }
                if (worst == NONE || own < least || own == least && wins(worst, c)) {
                    worst = c;
                    least = own;
                }
            }
            left.remove((Integer) worst);
            gone.add(worst);
        }
        gone.addAll(left);
        return gone;
    }

    private int winnerOf(List<Kind> kinds, List<Integer> present, int way) {
        if (present.isEmpty()) {
            return NONE;
        }
        if (way == 1) {
            return runoff(kinds, present).get(present.size() - 1);
        }
        List<Integer> among = way == 2 ? byPaths(kinds, present) : present;
        int best = NONE;
        for (int c : among) {
            int more = best == NONE || way == 2 ? 0 : has(kinds, present, way, c) - has(kinds, present, way, best);
            if (best == NONE || more > 0 || more == 0 && wins(c, best)) {
                best = c;
            }
        }
        return best;
    }

    public int winner(int way) {
        range(way >= 0 && way <= 4);
        return winnerOf(s.kinds, everybody(), way);
    }

    public int votesFor(int way, int candidate) {
        index(candidate, n());
        range(way == 0 || way == 3 || way == 4);
        return has(s.kinds, everybody(), way, candidate);
    }

    public int runoffOut(int index) {
        element(index >= 0 && index < n() - 1);
        return runoff(s.kinds, everybody()).get(index);
    }

    public int winnerWith(int way, int count) {
        range(way >= 0 && way <= 4);
        range(count >= -1000 && count <= 1000);
        Kind k = parse();
        text = "";
        if (k == null) {
            return -3 - parseError;
        }
        List<Kind> kinds = s.copy().kinds;
        int known = find(k);
        if (known != NONE) {
            kinds.get(known).count = Math.max(0, kinds.get(known).count + count);
        } else {
            k.count = Math.max(0, count);
            kinds.add(k);
        }
        return winnerOf(kinds, everybody(), way);
    }

    private int[] falseOrder;

    private int searchGain(int way) {
        range(way >= 0 && way <= 4);
        state(n() <= 5);
        int present = winnerOf(s.kinds, everybody(), way);
        List<int[]> orders = new ArrayList<>();
        listOrders(new ArrayList<>(), orders);
        for (int i = 0; i < s.kinds.size() && present != NONE; i++) {
            if (s.kinds.get(i).count == 0) {
                continue;
            }
            for (int[] order : orders) {
                List<Kind> kinds = s.copy().kinds;
                kinds.get(i).count--;
                Kind lie = new Kind();
                for (int c : order) {
                    lie.groups.add(Set.of(c));
                }
                lie.approved = Set.of(order[0]);
                lie.count = 1;
                kinds.add(lie);
                int best = winnerOf(kinds, everybody(), way);
                if (s.kinds.get(i).rank(best) < s.kinds.get(i).rank(present)) {
                    falseOrder = order;
                    return i;
                }
            }
        }
        return NONE;
    }

    private void listOrders(List<Integer> begun, List<int[]> orders) {
        if (begun.size() == n()) {
            orders.add(begun.stream().mapToInt(c -> c).toArray());
            return;
        }
        for (int c = 0; c < n(); c++) {
            if (!begun.contains(c)) {
                begun.add(c);
                listOrders(begun, orders);
                begun.remove(begun.size() - 1);
            }
        }
    }

    public int gain(int way) {
        return searchGain(way);
    }

    public int gainAt(int way, int index) {
        int kind = searchGain(way);
        element(kind != NONE && index >= 0 && index < n());
        return falseOrder[index];
    }

    public int spoiler(int way) {
        range(way >= 0 && way <= 4);
        int present = winnerOf(s.kinds, everybody(), way);
        for (int c = 0; c < n(); c++) {
            if (c != present) {
                List<Kind> kinds = new ArrayList<>();
                for (Kind k : s.kinds) {
                    kinds.add(k.without(c));
                }
                List<Integer> others = everybody();
                others.remove((Integer) c);
                if (winnerOf(kinds, others, way) != present) {
                    return c;
                }
            }
        }
        return NONE;
    }

    public int proportionalAt(int index) {
        element(index >= 0 && index < n());
        List<Integer> seated = new ArrayList<>();
        while (seated.size() <= index) {
            int best = NONE;
            Fraction most = Fraction.ZERO;
            for (int c = 0; c < n(); c++) {
                if (seated.contains(c)) {
                    continue;
                }
                Fraction sum = Fraction.ZERO;
                for (Kind k : s.kinds) {
                    if (k.approved.contains(c)) {
                        Set<Integer> both = new TreeSet<>(k.approved);
                        both.retainAll(seated);
                        sum = sum.plus(Fraction.of(k.count).over(Fraction.of(both.size() + 1)));
                    }
                }
                if (best == NONE || sum.compareTo(most) > 0 || sum.compareTo(most) == 0 && wins(c, best)) {
                    best = c;
                    most = sum;
                }
            }
            seated.add(best);
        }
        return seated.get(index);
    }

    public int safeAfter() {
        if (n() == 0) {
            return NONE;
        }
        int winner = winnerOf(s.kinds, everybody(), 0);
        int all = total(s.kinds);
        int[] got = new int[n()];
        int seen = 0;
        for (int k = -1; k < s.kinds.size(); k++) {
            int turns = k < 0 ? 1 : s.kinds.get(k).count;
            for (int i = 0; i < turns; i++) {
                if (k >= 0) {
                    seen++;
                    Kind kind = s.kinds.get(k);
                    if (!kind.groups.isEmpty() && kind.groups.get(0).size() == 1) {
                        got[kind.groups.get(0).iterator().next()]++;
                    }
                }
                boolean safe = true;
                for (int c = 0; c < n(); c++) {
                    int lead = got[winner] - got[c];
                    safe &= c == winner || lead > all - seen || lead == all - seen && wins(winner, c);
                }
                if (safe) {
                    return seen;
                }
            }
        }
        throw new AssertionError("never safe");
    }

    // ---- districts

    public int ward(int heads, int votesA, int votesB) {
        range(heads >= 1 && heads <= 100000);
        range(votesA >= 0 && votesA <= 100000);
        range(votesB >= 0 && votesB <= 100000);
        state(s.wards.size() < 16);
        changing();
        s.wards.add(new int[] {heads, votesA, votesB});
        return s.wards.size() - 1;
    }

    private int leastHeads;
    private int[] ends;

    /** Tries each row of last wards, in lexicographic order. */
    private void tryEnds(int[] row, int place, int start, int most) {
        if (most >= leastHeads) {
            return;
        }
        if (place == row.length) {
            if (start == s.wards.size()) {
                leastHeads = most;
                ends = row.clone();
            }
            return;
        }
        int sum = 0;
        for (int last = start; last < s.wards.size(); last++) {
            sum += s.wards.get(last)[0];
            row[place] = last;
            tryEnds(row, place + 1, last + 1, Math.max(most, sum));
        }
    }

    private void divide(int districts) {
        range(districts >= 1 && districts <= s.wards.size());
        leastHeads = Integer.MAX_VALUE;
        tryEnds(new int[districts], 0, 0, 0);
    }

    public int greatestDistrict(int districts) {
        divide(districts);
        return leastHeads;
    }

    public int districtEnd(int districts, int index) {
        divide(districts);
        element(index >= 0 && index < districts);
        return ends[index];
    }

    private List<int[]> districtVotes(int districts, int party) {
        List<int[]> rows = new ArrayList<>();
        int ward = 0;
        for (int end : ends) {
            int[] row = new int[2];
            for (; ward <= end; ward++) {
                row[0] += s.wards.get(ward)[1 + party];
                row[1] += s.wards.get(ward)[2 - party];
            }
            rows.add(row);
        }
        return rows;
    }

    public int districtsWon(int districts, int party) {
        divide(districts);
        range(party == 0 || party == 1);
        int won = 0;
        for (int[] row : districtVotes(districts, party)) {
            won += row[0] > row[1] ? 1 : 0;
        }
        return won;
    }

    public int wasted(int districts, int party) {
        divide(districts);
        range(party == 0 || party == 1);
        int sum = 0;
        for (int[] row : districtVotes(districts, party)) {
            sum += row[0] > row[1] ? row[0] - Math.floorDiv(row[0] + row[1], 2) - 1 : row[0];
        }
        return sum;
    }

    // ---- councils

    public int member(int weight) {
        range(weight >= 0 && weight <= 1000);
        state(s.members.size() < 12);
        changing();
        s.members.add(weight);
        return s.members.size() - 1;
    }

    public int setQuota(int quota) {
        range(quota >= 1 && quota <= 12000);
        changing();
        int before = s.quota;
        s.quota = quota;
        return before;
    }

    /** For each size: how many sets of other members with this size the member swings. */
    private long[] swungBySize(int member) {
        long[][] sets = new long[13][12001];
        sets[0][0] = 1;
        int done = 0;
        for (int other = 0; other < s.members.size(); other++) {
            if (other != member) {
                for (int size = done; size >= 0; size--) {
                    for (int sum = 0; sum <= 1000 * done; sum++) {
                        sets[size + 1][sum + s.members.get(other)] += sets[size][sum];
                    }
                }
                done++;
            }
        }
        long[] swung = new long[13];
        for (int size = 0; size < 13; size++) {
            for (int sum = 0; sum <= 12000; sum++) {
                swung[size] += sum < s.quota && sum + s.members.get(member) >= s.quota ? sets[size][sum] : 0;
            }
        }
        return swung;
    }

    public int swings(int member) {
        index(member, s.members.size());
        return (int) Arrays.stream(swungBySize(member)).sum();
    }

    private long turnedBy(int member, List<Integer> begun, int sum) {
        long turned = 0;
        for (int next = 0; next < s.members.size(); next++) {
            if (!begun.contains(next)) {
                int then = sum + s.members.get(next);
                if (next == member) {
                    long rest = 1;
                    for (int i = 2; i < s.members.size() - begun.size(); i++) {
                        rest *= i;
                    }
                    turned += sum < s.quota && then >= s.quota ? rest : 0;
                } else {
                    begun.add(next);
                    turned += turnedBy(member, begun, then);
                    begun.remove(begun.size() - 1);
                }
            }
        }
        return turned;
    }

    public long ordersTurned(int member) {
        index(member, s.members.size());
        if (s.members.size() <= 6) {
            return turnedBy(member, new ArrayList<>(), 0);
        }
        long[] swung = swungBySize(member);
        long sum = 0;
        for (int size = 0; size < s.members.size(); size++) {
            long orders = swung[size];
            for (int i = 2; i <= size; i++) {
                orders *= i;
            }
            for (int i = 2; i < s.members.size() - size; i++) {
                orders *= i;
            }
            sum += orders;
        }
        return sum;
    }

    // ---- undo, checks

    public int undo() {
        if (history.isEmpty()) {
            return NONE;
        }
        s = history.removeLast();
        return history.size();
    }

    public long checksum() {
        List<Integer> numbers = new ArrayList<>();
        for (Kind k : s.kinds) {
            numbers.add(k.count);
        }
        for (int i = 0; i < s.lists.size(); i++) {
            numbers.add(s.lists.get(i)[0]);
            numbers.add(s.seats.got[i]);
        }
        if (s.count != null) {
            numbers.addAll(s.count.elected);
        }
        numbers.addAll(s.members);
        long c = 0;
        for (int number : numbers) {
            c = 31 * c + number;
        }
        return c;
    }

    public double meanRank(int candidate) {
        index(candidate, n());
        long sum = 0;
        for (Kind k : s.kinds) {
            sum += (long) k.rank(candidate) * k.count;
        }
        return allBallots() == 0 ? 0.0 : (double) sum / (double) allBallots();
    }

    public float seatShare(int list) {
        index(list, s.lists.size());
        int all = s.seats.order.size();
        return all == 0 ? 0.0f : (float) s.seats.got[list] / (float) all;
    }

    public int errors() {
        return 0;
    }
}
