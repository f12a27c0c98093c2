/**
 * Every call with every mix of numbers at, ahead of and beyond its bounds, answered by the
 * class and by the model: nothing is thrown, and the answers and findings are the same.
 */
public final class SweepTest {
    private static final Checks C = new Checks("SweepTest");
    private static final int LEAST = Integer.MIN_VALUE, MOST = Integer.MAX_VALUE;
    private static final int[] ROWS = {LEAST, -1, 0, 1, 2, 3, 4, 5, 6, 7, 8, MOST};
    private static final int[] FEW_ROWS = {-1, 0, 1, 2, 5, 7, 8};
    private static final int[] THINGS = {LEAST, -1, 0, 1, 2, 4, 5, MOST};
    private static final int[] PEOPLE = {LEAST, -2, -1, 0, 1, 2, 3, 4, MOST};
    private static final int[] EITHER = {LEAST, -1, 0, 1, 2, MOST};
    private static final int[] SEEDS = {LEAST, -1, 0, 1, 127773, 127774, 999999, 1000000, MOST};
    private static final int[] PLACES = {LEAST, -1, 0, 1, 3, 4, 5, 40, MOST};
    private static final int[] ITEMS = {LEAST, -32769, -32768, -129, -128, -1, 0, 5, 6, 127, 128, 32767, 32768, MOST};
    private static final int[] LANES = {LEAST, -1, 0, 1, 2, 3, MOST};
    private static final int[] LENGTHS = {LEAST, -1, 0, 1, 39, 40, 41, MOST};
    private static final String[] TOWNS = {
        "",
        "law 1 20;person sly;thing 60;",
        "law 2 1;person true;person widow;person shy;thing 0 30 60;thing 35 35 35;",
        "law 3 5;person rich;person true;person sly;person shy;thing 1 2 3 4;thing 40 30 20 10;thing 0 0 0 0;"
            + "thing 60 60 60 60;thing 31 29 30 30;"};

    private static final int CALLS = 22;

    private LeastWants x;
    private Model m;
    private final String town;
    private int made;

    private SweepTest(String town) {
        this.town = town;
        begin();
    }

    public static void main(String[] args) {
        for (String town : TOWNS) {
            SweepTest t = new SweepTest(town);
            for (int call = 0; call < CALLS; call++) {
                int[][] mix = mix(call);
                t.sweep(call, mix, new int[mix.length], 0);
            }
        }
        C.end();
    }

    /** Of each call the numbers that it is called with, in its order. */
    private static int[][] mix(int call) {
        int[][][] all = {
            {ROWS, LANES, LENGTHS}, {ROWS, PLACES, ITEMS},
            {FEW_ROWS, PLACES, FEW_ROWS, PLACES, {LEAST, -1, 0, 1, 4, 40, MOST}},
            {ROWS}, {{LEAST, -1, 0, 1, 7, 8, 9, MOST}}, {THINGS, ROWS, SEEDS}, {THINGS, SEEDS}, {THINGS}, {PEOPLE},
            {THINGS, EITHER}, {THINGS, PEOPLE, EITHER}, {THINGS, ROWS, PEOPLE, EITHER}, {THINGS, ROWS, PEOPLE},
            {THINGS, PEOPLE}, {THINGS, ROWS, PEOPLE}, {THINGS, EITHER}, {THINGS, ROWS, EITHER}, {THINGS, EITHER},
            {THINGS, ROWS}, {EITHER}, {PEOPLE, {LEAST, -1, 0, 1, 2, 3, 4, 5, 6, MOST}}, {PEOPLE, EITHER}};
        return all[call];
    }

    private void begin() {
        x = new LeastWants();
        m = new Model();
        for (int i = 0; i < town.length(); i += 8) {
            int n = Math.min(8, town.length() - i);
            long w = Checks.packed(town.substring(i, i + n));
            x.feed(w, n);
            m.feed(w, n);
        }
        x.town();
        m.town();
        int[][] rows = {{2, 0, 2, 1}, {5, 5, 5, 5}, {0, 0, 6, 0}, {1, 1}, {-1, 2, 3, 4}, {}};
        for (int r = 0; r < rows.length; r++) {
            x.row(r, r % 3, rows[r].length);
            m.row(r, r % 3, rows[r].length);
            for (int i = 0; i < rows[r].length; i++) {
                x.set(r, i, rows[r][i]);
                m.set(r, i, rows[r][i]);
            }
        }
        x.image(1);
        m.image(1);
        x.offer(0, 3);
        m.offer(0, 3);
        made = 60;
    }

    private void sweep(int call, int[][] mix, int[] told, int from) {
        if (from < mix.length) {
            for (int v : mix[from]) {
                told[from] = v;
                sweep(call, mix, told, from + 1);
            }
            return;
        }
        if (made > 500) {
            begin();
        }
        made += 5;
        String name = "call " + call + " of " + java.util.Arrays.toString(told) + " in " + town;
        C.due(name, ofClass(call, told), ofModel(call, told));
        C.due("status() behind " + name, x.status(), m.status());
    }

    private int ofClass(int call, int[] t) {
        switch (call) {
            case 0: return x.row(t[0], t[1], t[2]);
            case 1: return x.set(t[0], t[1], t[2]);
            case 2: return x.copy(t[0], t[1], t[2], t[3], t[4]);
            case 3: return x.drop(t[0]);
            case 4: return x.feed(-1L, t[0]);
            case 5: return x.give(t[0], t[1], t[2]);
            case 6: return x.offer(t[0], t[1]);
            case 7: return x.back(t[0]);
            case 8: return x.coin(t[0]);
            case 9: return x.thing(t[0], t[1]);
            case 10: return x.worth(t[0], t[1], t[2]);
            case 11: return x.gain(t[0], t[1], t[2], t[3]);
            case 12: return x.best(t[0], t[1], t[2]);
            case 13: return x.rests(t[0], t[1]);
            case 14: return x.rounds(t[0], t[1], t[2]);
            case 15: return x.least(t[0], t[1]);
            case 16: return x.lost(t[0], t[1], t[2]);
            case 17: return x.honest(t[0], t[1]);
            case 18: return x.ore(t[0], t[1]);
            case 19: return x.image(t[0]) * 31 + x.restore(t[0]) + x.trace(t[0]) + x.count(t[0]);
            case 20: return x.as(t[0], t[1]);
            default: return x.ask(t[0], t[1]) + 31 * x.kind(t[0]) + 17 * x.trace(t[1]);
        }
    }

    private int ofModel(int call, int[] t) {
        switch (call) {
            case 0: return m.row(t[0], t[1], t[2]);
            case 1: return m.set(t[0], t[1], t[2]);
            case 2: return m.copy(t[0], t[1], t[2], t[3], t[4]);
            case 3: return m.drop(t[0]);
            case 4: return m.feed(-1L, t[0]);
            case 5: return m.give(t[0], t[1], t[2]);
            case 6: return m.offer(t[0], t[1]);
            case 7: return m.back(t[0]);
            case 8: return m.coin(t[0]);
            case 9: return m.thing(t[0], t[1]);
            case 10: return m.worth(t[0], t[1], t[2]);
            case 11: return m.gain(t[0], t[1], t[2], t[3]);
            case 12: return m.best(t[0], t[1], t[2]);
            case 13: return m.rests(t[0], t[1]);
            case 14: return m.rounds(t[0], t[1], t[2]);
            case 15: return m.least(t[0], t[1]);
            case 16: return m.lost(t[0], t[1], t[2]);
            case 17: return m.honest(t[0], t[1]);
            case 18: return m.ore(t[0], t[1]);
            case 19: return m.image(t[0]) * 31 + m.restore(t[0]) + m.trace(t[0]) + m.count(t[0]);
            case 20: return m.as(t[0], t[1]);
            default: return m.ask(t[0], t[1]) + 31 * m.kind(t[0]) + 17 * m.trace(t[1]);
        }
    }
}
