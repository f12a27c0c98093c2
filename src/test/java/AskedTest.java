/** Promises 26 to 31: kinds, asks and their trace, counts, and the finding of as(). */
public final class AskedTest {
    private static final Checks C = new Checks("AskedTest");
    private static final int NONE = LeastWants.NONE, KIND = -1000013;

    public static void main(String[] args) {
        tellsKinds();
        takesAsKinds();
        asksEachSort();
        asksByCoinAndThings();
        emptiesTheTrace();
        counts();
        C.end();
    }

    private static LeastWants ofSort(String sort) {
        return Checks.townOf("law 1 1;person " + sort + ";thing 30;");
    }

    private static void tellsKinds() {
        String[] sorts = {"true", "sly", "shy", "rich", "widow"};
        for (int s = 0; s < 5; s++) {
            LeastWants x = ofSort(sorts[s]);
            C.due("kind(0) of a " + sorts[s] + " one", x.kind(0), s + 1);
            C.due("kind(1)", x.kind(1), LeastWants.BAD);
            C.due("kind(-1)", x.kind(-1), LeastWants.BAD);
        }
    }

    private static void takesAsKinds() {
        String[] sorts = {"true", "sly", "shy", "rich", "widow"};
        // Of each sort the kinds, as bits, that it is.
        int[] is = {0b000011, 0b000111, 0b001011, 0b010001, 0b110001};
        for (int s = 0; s < 5; s++) {
            LeastWants x = Checks.townOf("law 1 1;person true;person " + sorts[s] + ";");
            for (int k = 0; k <= 5; k++) {
                boolean fits = (is[s] >> k & 1) == 1;
                C.due("as(1, " + k + ") of a " + sorts[s] + " one", x.as(1, k), fits ? 1 : KIND);
                C.due("status() of it", x.status(), fits ? 0 : 3);
                C.due("kind(1) stays", x.kind(1), s + 1);
            }
            C.due("as(1, -1)", x.as(1, -1), LeastWants.BAD);
            C.due("as(1, 6)", x.as(1, 6), LeastWants.BAD);
            C.due("as(2, 0)", x.as(2, 0), LeastWants.BAD);
            C.due("as(-1, 0)", x.as(-1, 0), LeastWants.BAD);
        }
    }

    private static void asked(LeastWants x, int person, int what, int want, int... trace) {
        C.due("ask(" + person + ", " + what + ")", x.ask(person, what), want);
        for (int i = 0; i < trace.length; i++) {
            C.due("trace(" + i + ") of ask(" + person + ", " + what + ")", x.trace(i), trace[i]);
        }
        C.due("trace(" + trace.length + ") of ask(" + person + ", " + what + ")", x.trace(trace.length), NONE);
    }

    /** Five towns of one sort each: number 2 of three, without coin and things. */
    private static void asksEachSort() {
        String two = "law 1 1;person true;person true;person ";
        LeastWants x = Checks.townOf(two + "true;");
        asked(x, 2, 0, 2, 11, 10, 21, 20);
        asked(x, 2, 1, 2, 21, 20);
        x = Checks.townOf(two + "sly;");
        asked(x, 2, 0, -4, 12, 11, 10, 24, 21, 20);
        asked(x, 2, 1, 4, 24, 21, 20);
        x = Checks.townOf(two + "shy;");
        asked(x, 2, 0, -998, 11, 10, 22, 21, 20);
        asked(x, 2, 1, -998, 22, 21, 20);
        x = Checks.townOf(two + "rich;");
        asked(x, 2, 0, -100, 13, 10);
        asked(x, 2, 1, 102, 23, 20, 13, 10);
        x = Checks.townOf(two + "widow;");
        asked(x, 2, 0, -200, 14, 13, 10);
        asked(x, 2, 1, 202, 23, 20, 14, 13, 10);
    }

    /** By law 3 with fee 5: two things for person 1, one for 0, one for 3. */
    private static void asksByCoinAndThings() {
        LeastWants x = Checks.townOf("law 3 5;person true;person sly;person shy;person widow;"
            + "thing 1 1 1 1;thing 1 1 1 1;thing 1 1 1 1;thing 1 1 1 1;");
        int[][] rows = {{1, 0, 1, 1}, {1, 0, 1, 1}, {0, 1, 1, 1}, {1, 1, 1, 0}};
        for (int i = 0; i < 4; i++) {
            Checks.lay(x, 0, rows[i]);
            x.give(i, 0, 1);
        }
        C.due("coin(0)", x.coin(0), 0);
        C.due("coin(1)", x.coin(1), 20);
        C.due("coin(2)", x.coin(2), -20);
        C.due("coin(3)", x.coin(3), 0);
        asked(x, 0, 0, 1, 11, 10, 21, 20);
        asked(x, 0, 1, 1, 21, 20);
        asked(x, 1, 0, -26, 12, 11, 10, 24, 21, 20);
        asked(x, 1, 1, 6, 24, 21, 20);
        asked(x, 2, 0, -1018, 11, 10, 22, 21, 20);
        asked(x, 2, 1, -998, 22, 21, 20);
        asked(x, 3, 0, -200, 14, 13, 10);
        asked(x, 3, 1, 203, 23, 20, 14, 13, 10);
        x.back(0);
        asked(x, 1, 1, 4, 24, 21, 20);
    }

    private static void emptiesTheTrace() {
        LeastWants x = ofSort("widow");
        C.due("trace(0) of nothing", x.trace(0), NONE);
        x.ask(0, 1);
        C.due("ask(0, 2)", x.ask(0, 2), LeastWants.BAD);
        C.due("ask(0, -1)", x.ask(0, -1), LeastWants.BAD);
        C.due("ask(1, 0)", x.ask(1, 0), LeastWants.BAD);
        C.due("ask(-1, 0)", x.ask(-1, 0), LeastWants.BAD);
        C.due("trace(4) stays behind BAD", x.trace(4), 10);
        C.due("trace(5)", x.trace(5), NONE);
        C.due("trace(-1)", x.trace(-1), NONE);
        C.due("trace(16)", x.trace(16), NONE);
        C.due("trace(most)", x.trace(Integer.MAX_VALUE), NONE);
        x.ask(0, 0);
        C.due("trace(0) anew", x.trace(0), 14);
        C.due("trace(3): emptied ahead", x.trace(3), NONE);
        x.image(0);
        Checks.read(x, "law 1 1;person true;");
        x.restore(0);
        C.due("trace(0) is no part of a town", x.trace(0), 14);
    }

    private static void counts() {
        LeastWants x = new LeastWants();
        x.row(2, 0, 0);
        x.row(5, 1, 3);
        Checks.feed(x, "law 2 11;person shy;person rich;thing 1 2;thing 3 4;thing 5 6;");
        C.due("count(7)", x.count(7), 62);
        C.due("town()", x.town(), 2);
        x.offer(1, 1);
        x.offer(2, 1);
        x.back(1);
        int[] want = {2, 2, 3, 1, 3, 2, 11, 0};
        for (int what = 0; what < 8; what++) {
            C.due("count(" + what + ")", x.count(what), want[what]);
        }
        C.due("count(-1)", x.count(-1), LeastWants.BAD);
        C.due("count(8)", x.count(8), LeastWants.BAD);
        x.drop(2);
        C.due("count(0) behind drop", x.count(0), 1);
        x.undo();
        C.due("count(3) behind undo", x.count(3), 2);
        C.due("count(4) behind undo", x.count(4), 2);
    }
}
