import java.util.ArrayList;
import java.util.Arrays;
import java.util.Comparator;
import java.util.List;
import java.util.regex.Matcher;
import java.util.regex.Pattern;

/**
 * The document once more, told as widely as the Java library lets one tell it:
 * each lot is drawn out winner by winner, each act keeps the whole town.
 */
final class Model {
    static final int NONE = -1000000, BAD = -1000001, STATE = -1000002, FULL = -1000003;
    static final String[] SORTS = {"person", "true", "sly", "shy", "rich", "widow"};

    /** above / below, in lowest terms. */
    static final class Ratio implements Comparable<Ratio> {
        final int above, below;

        Ratio(int above, int below) {
            int g = gcd(Math.abs(above), below);
            this.above = above / g;
            this.below = below / g;
        }

        static int gcd(int a, int b) {
            return b == 0 ? a : gcd(b, a % b);
        }

        @Override public int compareTo(Ratio o) {
            return Integer.compare(above * o.below, o.above * below);
        }
    }

    static final class State {
        int pays, fee;
        int[] kinds = {}, coins = {}, holders = {}, worn = {};
        int[][] told = {};

        State twin() {
            State s = new State();
            s.pays = pays;
            s.fee = fee;
            s.kinds = kinds.clone();
            s.coins = coins.clone();
            s.holders = holders.clone();
            s.worn = worn.clone();
            s.told = told;
            return s;
        }

        int worth(int thing, int person) {
            return told[thing][person] - 30 - 2 * worn[thing];
        }

        int own(int thing, int person) {
            int tens = (30 + worth(thing, person)) / 10;
            int frank = tens < 0 ? 0 : tens > 5 ? 5 : tens;
            String sort = SORTS[kinds[person]];
            if (sort.equals("sly")) return 5 - frank;
            if (sort.equals("shy")) return frank == 0 ? 0 : frank - 1;
            if (sort.equals("rich")) return frank < 3 ? 3 : frank;
            if (sort.equals("widow")) return 0;
            return frank;
        }

        int[] owns(int thing) {
            int[] says = new int[kinds.length];
            for (int p = 0; p < says.length; p++) says[p] = own(thing, p);
            return says;
        }

        /** What each pays (below 0) or gets if a thing comes to one. */
        int[] moves(int[] says, int winner, int law) {
            int[] moved = new int[says.length];
            int next = 0;
            int[] others = java.util.stream.IntStream.range(0, says.length)
                .filter(p -> p != winner).map(p -> says[p]).toArray();
            if (others.length > 0) next = Arrays.stream(others).min().getAsInt();
            if (law == 1) moved[winner] -= fee * next;
            if (law == 2) moved[winner] += fee * next;
            if (law == 3) {
                for (int p = 0; p < says.length; p++) {
                    if (p != winner) {
                        moved[p] -= fee;
                        moved[winner] += fee;
                    }
                }
            }
            return moved;
        }

        List<Integer> lot(int[] says) {
            int low = Arrays.stream(says).min().getAsInt();
            List<Integer> in = new ArrayList<>();
            for (int p = 0; p < says.length; p++) if (says[p] == low) in.add(p);
            return in;
        }

        Ratio gain(int thing, int[] says, int person, int law) {
            int sum = 0;
            List<Integer> in = lot(says);
            for (int winner : in) {
                if (winner == person) sum += worth(thing, person);
                sum += moves(says, winner, law)[person];
            }
            return new Ratio(sum, in.size());
        }

        int best(int thing, int[] says, int person, int law) {
            int best = -1;
            Ratio most = null;
            for (int s = 0; s <= 5; s++) {
                int[] other = says.clone();
                other[person] = s;
                Ratio r = gain(thing, other, person, law);
                if (most == null || r.compareTo(most) > 0) {
                    most = r;
                    best = s;
                }
            }
            return best;
        }

        boolean rest(int thing, int[] says, int law) {
            for (int p = 0; p < says.length; p++) {
                Ratio now = gain(thing, says, p, law);
                for (int s = 0; s <= 5; s++) {
                    int[] other = says.clone();
                    other[p] = s;
                    if (gain(thing, other, p, law).compareTo(now) > 0) return false;
                }
            }
            return true;
        }

        List<int[]> rests(int thing) {
            List<int[]> found = new ArrayList<>();
            collect(thing, new int[kinds.length], 0, found);
            return found;
        }

        private void collect(int thing, int[] says, int from, List<int[]> found) {
            if (from == says.length) {
                if (rest(thing, says, pays)) found.add(says.clone());
                return;
            }
            for (int s = 0; s <= 5; s++) {
                says[from] = s;
                collect(thing, says, from + 1, found);
            }
        }

        int most(int thing) {
            int max = Integer.MIN_VALUE;
            for (int p = 0; p < kinds.length; p++) max = Math.max(max, worth(thing, p));
            return max;
        }
    }

    // ---- asks: the language's own way of choosing a body

    interface Person {
        int coin();
        int number();
        int things();
        void leave(int body);
        default int size() { leave(10); return coin(); }
        default int mark() { leave(20); return number(); }
    }

    class Plain implements Person {
        final int p;
        Plain(int p) { this.p = p; }
        public int coin() { return now.coins[p]; }
        public int number() { return p; }
        public int things() { return (int) Arrays.stream(now.holders).filter(h -> h == p).count(); }
        public void leave(int body) { if (trace.size() < 16) trace.add(body); }
    }

    class TrueOne extends Plain {
        TrueOne(int p) { super(p); }
        public int size() { leave(11); int lent = super.size(); return lent + mark(); }
        public int mark() { leave(21); return super.mark() + things(); }
    }

    class SlyOne extends TrueOne {
        SlyOne(int p) { super(p); }
        public int size() { leave(12); return 0 - super.size(); }
        public int mark() { leave(24); return 2 * super.mark(); }
    }

    class ShyOne extends TrueOne {
        ShyOne(int p) { super(p); }
        public int mark() { leave(22); return super.mark() - 1000; }
    }

    class RichOne extends Plain {
        RichOne(int p) { super(p); }
        public int size() { leave(13); return super.size() - 100; }
        public int mark() { leave(23); int lent = super.mark(); return lent - size(); }
    }

    class WidowOne extends RichOne {
        WidowOne(int p) { super(p); }
        public int size() { leave(14); return 2 * super.size(); }
    }

    Person one(int p) {
        switch (now.kinds[p]) {
            case 1: return new TrueOne(p);
            case 2: return new SlyOne(p);
            case 3: return new ShyOne(p);
            case 4: return new RichOne(p);
            default: return new WidowOne(p);
        }
    }

    static final Class<?>[] KINDS =
        {Person.class, TrueOne.class, SlyOne.class, ShyOne.class, RichOne.class, WidowOne.class};

    // ---- what is held

    final int[][] rows = new int[8][];
    final int[] lanes = new int[8];
    String tape = "";
    int fault = 0, status = 0;
    State now = new State();
    final State[] images = new State[2];
    List<State> past = new ArrayList<>();
    List<Integer> trace = new ArrayList<>();

    // ---- rows

    int find(int finding) {
        status = finding;
        return -1000010 - finding;
    }

    int right(int answer) {
        status = 0;
        return answer;
    }

    boolean noRow(int r) { return r < 0 || r > 7; }
    boolean noThing(int t) { return t < 0 || t >= now.told.length; }
    boolean noOne(int p) { return p < 0 || p >= now.kinds.length; }
    boolean neither(int what) { return what != 0 && what != 1; }

    int row(int r, int lane, int n) {
        if (noRow(r) || lane < 0 || lane > 2 || n > 40) return BAD;
        if (n < 0) return find(4);
        rows[r] = new int[n];
        lanes[r] = lane;
        return right(n);
    }

    int set(int r, int i, int v) {
        if (noRow(r)) return BAD;
        if (rows[r] == null) return find(1);
        if (i < 0 || i >= rows[r].length) return find(2);
        rows[r][i] = lanes[r] == 0 ? (byte) v : lanes[r] == 1 ? (short) v : v;
        return right(rows[r][i]);
    }

    int copy(int a, int i, int b, int j, int n) {
        if (noRow(a) || noRow(b)) return BAD;
        if (rows[a] == null || rows[b] == null) return find(1);
        if (lanes[a] != lanes[b]) return find(5);
        if (i < 0 || j < 0 || n < 0 || (long) i + n > rows[a].length || (long) j + n > rows[b].length) return find(2);
        int[] ahead = rows[a].clone();
        for (int k = 0; k < n; k++) rows[b][j + k] = ahead[i + k];
        return right(n);
    }

    int drop(int r) {
        if (noRow(r)) return BAD;
        if (rows[r] == null) return find(1);
        int had = rows[r].length;
        rows[r] = null;
        return right(had);
    }

    // ---- towns

    int feed(long w, int n) {
        if (n < 1 || n > 8) return BAD;
        if (tape.length() + n > 400) return FULL;
        for (int k = n - 1; k >= 0; k--) tape += (char) (w >>> (8 * k) & 255);
        return tape.length();
    }

    private static final Pattern TOKEN = Pattern.compile("[ \n]*([a-z]+|[0-9]+|[^ \n]|$)", Pattern.DOTALL);

    static final class Fault extends Exception {
        private static final long serialVersionUID = 1;
        final int place, number;
        Fault(int place, int number) { this.place = place; this.number = number; }
    }

    private List<String> words;
    private List<Integer> places;
    private int reached;

    private void split() {
        words = new ArrayList<>();
        places = new ArrayList<>();
        Matcher m = TOKEN.matcher(tape);
        int from = 0;
        while (true) {
            m.region(from, tape.length());
            m.lookingAt();
            words.add(m.group(1));
            places.add(m.start(1));
            from = m.end(1);
            if (m.group(1).isEmpty()) return;
        }
    }

    private String word() { return words.get(reached); }

    private Fault wrong(int number) { return new Fault(places.get(reached), number); }

    private void must(String word) throws Fault {
        if (!word().equals(word)) throw wrong(1);
        reached++;
    }

    private int number(int most) throws Fault {
        if (!word().matches("[0-9]{1,3}")) throw wrong(1);
        int v = Integer.parseInt(word());
        if (v > most) throw wrong(2);
        reached++;
        return v;
    }

    private State readAll() throws Fault {
        State s = new State();
        must("law");
        s.pays = number(3);
        s.fee = number(20);
        must(";");
        List<Integer> kinds = new ArrayList<>();
        do {
            if (kinds.size() == 4 && word().equals("person")) throw wrong(3);
            must("person");
            int kind = Arrays.asList(SORTS).indexOf(word());
            if (kind < 1) throw wrong(1);
            reached++;
            must(";");
            kinds.add(kind);
        } while (word().equals("person"));
        List<int[]> told = new ArrayList<>();
        while (word().equals("thing")) {
            if (told.size() == 5) throw wrong(3);
            reached++;
            int[] t = new int[kinds.size()];
            for (int p = 0; p < t.length; p++) t[p] = number(60);
            must(";");
            told.add(t);
        }
        must("");
        s.kinds = kinds.stream().mapToInt(k -> k).toArray();
        s.coins = new int[kinds.size()];
        s.told = told.toArray(new int[0][]);
        s.holders = new int[told.size()];
        s.worn = new int[told.size()];
        Arrays.fill(s.holders, NONE);
        return s;
    }

    int town() {
        split();
        reached = 0;
        tape = "";
        try {
            now = readAll();
        } catch (Fault f) {
            fault = f.number;
            return -1000100 - f.place;
        }
        past.clear();
        return now.kinds.length;
    }

    // ---- acts

    private void act() {
        past.add(now.twin());
        if (past.size() > 24) past.remove(0);
    }

    private int round(int t, int[] says, int seed) {
        List<Integer> in = now.lot(says);
        long x = (long) seed * 16807 % 2147483647;
        int winner = in.get((int) (x % in.size()));
        act();
        now.holders[t] = winner;
        int[] moved = now.moves(says, winner, now.pays);
        for (int p = 0; p < moved.length; p++) now.coins[p] += moved[p];
        return winner;
    }

    /** The sayings of a ROW, or null, and then why in refused. */
    private int[] hear(int r) {
        refused = 0;
        if (rows[r] == null) {
            refused = find(1);
            return null;
        }
        if (rows[r].length < now.kinds.length) {
            refused = find(2);
            return null;
        }
        int[] says = Arrays.copyOf(rows[r], now.kinds.length);
        for (int s : says) {
            if (s < 0 || s > 5) {
                refused = BAD;
                return null;
            }
        }
        status = 0;
        return says;
    }

    private int refused;

    int give(int t, int r, int seed) {
        if (noThing(t) || noRow(r) || seed < 1 || seed > 999999) return BAD;
        if (now.holders[t] != NONE) return STATE;
        int[] says = hear(r);
        return says == null ? refused : round(t, says, seed);
    }

    int offer(int t, int seed) {
        if (noThing(t) || seed < 1 || seed > 999999) return BAD;
        if (now.holders[t] != NONE) return STATE;
        return round(t, now.owns(t), seed);
    }

    int back(int t) {
        if (noThing(t)) return BAD;
        int had = now.holders[t];
        if (had == NONE) return STATE;
        act();
        now.holders[t] = NONE;
        now.worn[t]++;
        return had;
    }

    int undo() {
        if (past.isEmpty()) return STATE;
        now = past.remove(past.size() - 1);
        return past.size();
    }

    int coin(int p) { return noOne(p) ? BAD : now.coins[p]; }

    int thing(int t, int what) {
        if (noThing(t) || neither(what)) return BAD;
        return what == 0 ? now.holders[t] : now.worn[t];
    }

    int worth(int t, int p, int what) {
        if (noThing(t) || noOne(p) || neither(what)) return BAD;
        return what == 0 ? now.worth(t, p) : now.own(t, p);
    }

    // ---- foretold

    int gain(int t, int r, int p, int what) {
        if (noThing(t) || noRow(r) || noOne(p) || neither(what)) return BAD;
        int[] says = hear(r);
        if (says == null) return refused;
        Ratio g = now.gain(t, says, p, now.pays);
        return what == 0 ? g.above : g.below;
    }

    int best(int t, int r, int p) {
        if (noThing(t) || noRow(r) || noOne(p)) return BAD;
        int[] says = hear(r);
        return says == null ? refused : now.best(t, says, p, now.pays);
    }

    int rests(int t, int k) {
        if (noThing(t) || (k != -1 && noOne(k))) return BAD;
        List<int[]> all = now.rests(t);
        if (k == -1) return all.size();
        return all.isEmpty() ? NONE : all.get(0)[k];
    }

    int rounds(int t, int r, int p) {
        if (noThing(t) || noRow(r) || (p != -1 && noOne(p))) return BAD;
        int[] says = hear(r);
        if (says == null) return refused;
        int many = 0;
        boolean still = false;
        while (many < 20 && !still) {
            int[] ahead = says.clone();
            for (int i = 0; i < says.length; i++) says[i] = now.best(t, says, i, now.pays);
            many++;
            still = Arrays.equals(ahead, says);
        }
        return p >= 0 ? says[p] : still ? many : NONE;
    }

    int least(int t, int what) {
        if (noThing(t) || neither(what)) return BAD;
        List<Integer> people = new ArrayList<>();
        for (int p = 0; p < now.kinds.length; p++) people.add(p);
        people.sort(Comparator.comparingInt(p -> what == 0 ? now.worth(t, p) : -now.worth(t, p)));
        return people.get(0);
    }

    int lost(int t, int r, int what) {
        if (noThing(t) || noRow(r) || neither(what)) return BAD;
        int[] says = hear(r);
        if (says == null) return refused;
        int sum = 0;
        List<Integer> in = now.lot(says);
        for (int p : in) sum += now.worth(t, p);
        Ratio l = new Ratio(now.most(t) * in.size() - sum, in.size());
        return what == 0 ? l.above : l.below;
    }

    int honest(int t, int what) {
        if (noThing(t) || neither(what)) return BAD;
        int[] says = now.owns(t);
        if (what == 0) return now.rest(t, says, now.pays) ? 1 : 0;
        int laws = 0;
        for (int law = 0; law <= 3; law++) if (now.rest(t, says, law)) laws += 1 << law;
        return laws;
    }

    int ore(int t, int r) {
        if (noThing(t) || noRow(r)) return BAD;
        int[] says = hear(r);
        if (says == null) return refused;
        int bits = 0;
        for (int p = 0; p < says.length; p++) if (says[p] < now.own(t, p)) bits += 1 << p;
        return bits;
    }

    int image(int k) {
        if (neither(k)) return BAD;
        if (now.kinds.length == 0) return STATE;
        images[k] = now.twin();
        return 1;
    }

    int restore(int k) {
        if (neither(k)) return BAD;
        if (images[k] == null) return STATE;
        now = images[k].twin();
        past.clear();
        return 1;
    }

    // ---- asked

    int kind(int p) { return noOne(p) ? BAD : now.kinds[p]; }

    int as(int p, int kind) {
        if (noOne(p) || kind < 0 || kind > 5) return BAD;
        return KINDS[kind].isInstance(one(p)) ? right(p) : find(3);
    }

    int ask(int p, int what) {
        if (noOne(p) || neither(what)) return BAD;
        trace.clear();
        return what == 0 ? one(p).size() : one(p).mark();
    }

    int trace(int i) { return i < 0 || i >= trace.size() ? NONE : trace.get(i); }

    int count(int what) {
        switch (what) {
            case 0: return (int) Arrays.stream(rows).filter(r -> r != null).count();
            case 1: return now.kinds.length;
            case 2: return now.told.length;
            case 3: return (int) Arrays.stream(now.holders).filter(h -> h != NONE).count();
            case 4: return past.size();
            case 5: return now.pays;
            case 6: return now.fee;
            case 7: return tape.length();
            default: return BAD;
        }
    }

    int status() { return status; }
}
