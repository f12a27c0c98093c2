import java.util.ArrayList;
import java.util.List;

/**
 * Every refusal and finding of every call, in the order in which the document tells them:
 * of two objects alike one is asked for what is refused, and both must then tell the same
 * of everything but status().
 */
public final class RefusalsTest {
    private static final Checks C = new Checks("RefusalsTest");
    private static final int BAD = LeastWants.BAD, STATE = LeastWants.STATE, FULL = LeastWants.FULL;
    private static final int NULL = -1000011, PLACE = -1000012, KIND = -1000013, SIZE = -1000014, STORE = -1000015;
    private static final int LEAST = Integer.MIN_VALUE, MOST = Integer.MAX_VALUE;
    private static final String TOWN = "law 3 2;person true;person sly;person rich;thing 40 20 30;thing 10 50 1;thing 3 2 1;";

    /** A call that is refused. */
    interface Call {
        int on(LeastWants x);
    }

    public static void main(String[] args) {
        whatChangesIsSeen();
        row();
        set();
        copy();
        drop();
        feed();
        town();
        give();
        offer();
        backAndUndo();
        coinThingWorth();
        gain();
        best();
        rounds();
        lost();
        ore();
        restsLeastHonest();
        imageAndRestore();
        kindAs();
        askTraceCount();
        withoutATown();
        whatIsNotRefusedTellsZero();
        callsWithoutARowLeaveStatus();
        C.end();
    }

    // ---- two objects alike

    /**
     * People 0 to 2; thing 0 somebody's and worn, 1 nobody's, 2 somebody's; rows 0 sayings,
     * 1 too short, 2 and 3 with an item that is none, 4 long, 5 of no items, 6 missing, 7 dropped.
     */
    private static LeastWants made() {
        LeastWants x = new LeastWants();
        Checks.read(x, "law 1 7;person shy;person widow;thing 1 2;");
        x.offer(0, 1);
        x.image(0);
        Checks.read(x, "law 4;");
        Checks.read(x, TOWN);
        x.offer(0, 5);
        x.back(0);
        x.offer(0, 7);
        x.offer(2, 9);
        x.ask(1, 0);
        Checks.lay(x, 0, 1, 4, 2);
        x.row(1, 0, 2);
        x.set(1, 1, 3);
        x.row(2, 1, 3);
        x.set(2, 1, 6);
        Checks.lay(x, 3, 0, 0, -1);
        x.row(4, 0, 9);
        for (int i = 0; i < 9; i++) {
            x.set(4, i, i % 4 + 1);
        }
        x.row(5, 2, 0);
        x.row(7, 1, 11);
        x.drop(7);
        Checks.feed(x, "law 2 9; pers");
        x.copy(0, 0, 4, 0, 1);
        return x;
    }

    private static void tellTown(LeastWants x, List<Integer> told) {
        for (int what = 0; what <= 8; what++) {
            told.add(x.count(what));
        }
        for (int p = 0; p < 3; p++) {
            told.add(x.kind(p));
            told.add(x.coin(p));
        }
        for (int t = 0; t < 3; t++) {
            told.add(x.thing(t, 0));
            told.add(x.thing(t, 1));
            for (int p = 0; p < 3; p++) {
                told.add(x.worth(t, p, 0));
            }
        }
    }

    /** Person 2 wants thing 1 least of all: his best is one above the other's saying. */
    private static void tellRow(LeastWants x, int row, int lane, int length, List<Integer> told) {
        for (int i = 0; i < length; i++) {
            x.row(6, lane, 3);
            x.set(6, 1, 5);
            x.set(6, 2, 5);
            told.add(x.copy(row, i, 6, 0, 1));
            told.add(x.best(1, 6, 2));
        }
    }

    /** All that an object tells, but status(); what it can still undo, restore and read, too. */
    private static List<Integer> all(LeastWants x) {
        List<Integer> told = new ArrayList<>();
        told.add(x.fault());
        for (int i = 0; i <= 6; i++) {
            told.add(x.trace(i));
        }
        tellTown(x, told);
        for (int row = 0; row < 8; row++) {
            told.add(x.ore(1, row));
            told.add(x.copy(row, 0, 0, 0, 0));
            told.add(x.copy(row, 0, 2, 0, 0));
        }
        tellRow(x, 0, 2, 3, told);
        tellRow(x, 1, 0, 2, told);
        tellRow(x, 4, 0, 9, told);
        for (int row = 0; row < 8; row++) {
            told.add(row == 6 ? 0 : x.drop(row));
        }
        for (int i = 0; i < 5; i++) {
            told.add(x.undo());
            told.add(x.coin(0));
            told.add(x.thing(0, 0));
            told.add(x.thing(0, 1));
            told.add(x.thing(2, 0));
        }
        told.add(x.restore(1));
        told.add(x.restore(0));
        tellTown(x, told);
        Checks.feed(x, "on shy;thing 17;");
        told.add(x.town());
        tellTown(x, told);
        return told;
    }

    /** What is told ahead is STORE; a finding takes its place, BAD, STATE and FULL do not. */
    private static void refused(String call, int want, Call made) {
        LeastWants x = made();
        int got = made.on(x);
        C.due(call, got, want);
        C.due("status() behind " + call, x.status(), want <= -1000011 && want >= -1000015 ? -1000010 - want : 5);
        C.due(call + " changes nothing else", all(x).equals(all(made())) ? 1 : 0, 1);
    }

    private static void seen(String call, Call made) {
        LeastWants x = made();
        made.on(x);
        C.due(call + " is seen", all(x).equals(all(made())) ? 0 : 1, 1);
    }

    /** Two objects alike would say nothing if what they tell were blind for a change. */
    private static void whatChangesIsSeen() {
        C.due("nothing is not seen", all(made()).equals(all(made())) ? 1 : 0, 1);
        seen("row(6, 0, 0)", x -> x.row(6, 0, 0));
        seen("row(5, 1, 0)", x -> x.row(5, 1, 0));
        seen("row(5, 2, 1)", x -> x.row(5, 2, 1));
        seen("row(7, 1, 11)", x -> x.row(7, 1, 11));
        for (int i = 0; i < 9; i++) {
            int at = i;
            seen("set(4, " + i + ", 0)", x -> x.set(4, at, 0));
        }
        seen("set(0, 2, 1)", x -> x.set(0, 2, 1));
        seen("set(1, 1, 4)", x -> x.set(1, 1, 4));
        seen("set(2, 1, 5)", x -> x.set(2, 1, 5));
        seen("set(3, 2, 0)", x -> x.set(3, 2, 0));
        seen("copy(4, 1, 4, 8, 1)", x -> x.copy(4, 1, 4, 8, 1));
        seen("drop(5)", x -> x.drop(5));
        seen("feed(' ', 1)", x -> x.feed(' ', 1));
        seen("town()", x -> x.town());
        seen("give(1, 0, 1)", x -> x.give(1, 0, 1));
        seen("offer(1, 1)", x -> x.offer(1, 1));
        seen("back(0)", x -> x.back(0));
        seen("undo()", x -> x.undo());
        seen("image(0)", x -> x.image(0));
        seen("image(1)", x -> x.image(1));
        seen("restore(0)", x -> x.restore(0));
        seen("ask(0, 0)", x -> x.ask(0, 0));
        seen("ask(1, 1)", x -> x.ask(1, 1));
    }

    // ---- rows

    private static void row() {
        refused("row(-1, 0, 1)", BAD, x -> x.row(-1, 0, 1));
        refused("row(8, 0, 1)", BAD, x -> x.row(8, 0, 1));
        refused("row(most, 0, 1)", BAD, x -> x.row(MOST, 0, 1));
        refused("row(0, -1, 1)", BAD, x -> x.row(0, -1, 1));
        refused("row(0, 3, 1)", BAD, x -> x.row(0, 3, 1));
        refused("row(0, 0, 41)", BAD, x -> x.row(0, 0, 41));
        refused("row(0, 0, most)", BAD, x -> x.row(0, 0, MOST));
        refused("row(-1, 0, -1): BAD ahead of SIZE", BAD, x -> x.row(-1, 0, -1));
        refused("row(8, 0, -1): BAD ahead of SIZE", BAD, x -> x.row(8, 0, -1));
        refused("row(0, 3, -1): BAD ahead of SIZE", BAD, x -> x.row(0, 3, -1));
        refused("row(0, -1, -1): BAD ahead of SIZE", BAD, x -> x.row(0, -1, -1));
        refused("row(0, 0, -1)", SIZE, x -> x.row(0, 0, -1));
        refused("row(6, 2, -1) of a missing one", SIZE, x -> x.row(6, 2, -1));
        refused("row(4, 1, least)", SIZE, x -> x.row(4, 1, LEAST));
    }

    private static void set() {
        refused("set(-1, 0, 1)", BAD, x -> x.set(-1, 0, 1));
        refused("set(8, 0, 1)", BAD, x -> x.set(8, 0, 1));
        refused("set(8, -1, 1): BAD ahead of PLACE", BAD, x -> x.set(8, -1, 1));
        refused("set(6, 0, 1)", NULL, x -> x.set(6, 0, 1));
        refused("set(7, 0, 1) of a dropped one", NULL, x -> x.set(7, 0, 1));
        refused("set(6, -1, 1): NULL ahead of PLACE", NULL, x -> x.set(6, -1, 1));
        refused("set(7, 11, 1): NULL ahead of PLACE", NULL, x -> x.set(7, 11, 1));
        refused("set(0, -1, 4)", PLACE, x -> x.set(0, -1, 4));
        refused("set(0, 3, 4)", PLACE, x -> x.set(0, 3, 4));
        refused("set(5, 0, 4) of no items", PLACE, x -> x.set(5, 0, 4));
        refused("set(4, 9, 4)", PLACE, x -> x.set(4, 9, 4));
        refused("set(4, most, 4)", PLACE, x -> x.set(4, MOST, 4));
        refused("set(4, least, 4)", PLACE, x -> x.set(4, LEAST, 4));
    }

    private static void copy() {
        refused("copy(-1, 0, 0, 0, 1)", BAD, x -> x.copy(-1, 0, 0, 0, 1));
        refused("copy(8, 0, 0, 0, 1)", BAD, x -> x.copy(8, 0, 0, 0, 1));
        refused("copy(0, 0, -1, 0, 1)", BAD, x -> x.copy(0, 0, -1, 0, 1));
        refused("copy(0, 0, 8, 0, 1)", BAD, x -> x.copy(0, 0, 8, 0, 1));
        refused("copy(6, 0, 8, 0, 1): BAD ahead of NULL", BAD, x -> x.copy(6, 0, 8, 0, 1));
        refused("copy(-1, 0, 6, 0, 1): BAD ahead of NULL", BAD, x -> x.copy(-1, 0, 6, 0, 1));
        refused("copy(0, -1, 8, 0, 1): BAD ahead of PLACE", BAD, x -> x.copy(0, -1, 8, 0, 1));
        refused("copy(6, 0, 0, 0, 0)", NULL, x -> x.copy(6, 0, 0, 0, 0));
        refused("copy(0, 0, 6, 0, 0)", NULL, x -> x.copy(0, 0, 6, 0, 0));
        refused("copy(0, 0, 7, 0, 0): a dropped one has no LANE", NULL, x -> x.copy(0, 0, 7, 0, 0));
        refused("copy(6, -1, 0, -1, -1): NULL ahead of PLACE", NULL, x -> x.copy(6, -1, 0, -1, -1));
        refused("copy(0, -1, 6, -1, -1): NULL ahead of PLACE", NULL, x -> x.copy(0, -1, 6, -1, -1));
        refused("copy(0, 0, 4, 0, 1)", STORE, x -> x.copy(0, 0, 4, 0, 1));
        refused("copy(2, 0, 4, 0, 1)", STORE, x -> x.copy(2, 0, 4, 0, 1));
        refused("copy(0, 0, 2, 0, 0) of none", STORE, x -> x.copy(0, 0, 2, 0, 0));
        refused("copy(0, -1, 4, -1, -1): STORE ahead of PLACE", STORE, x -> x.copy(0, -1, 4, -1, -1));
        refused("copy(0, 4, 2, 0, 1): STORE ahead of PLACE", STORE, x -> x.copy(0, 4, 2, 0, 1));
        refused("copy(1, -1, 4, 0, 1)", PLACE, x -> x.copy(1, -1, 4, 0, 1));
        refused("copy(1, 0, 4, -1, 1)", PLACE, x -> x.copy(1, 0, 4, -1, 1));
        refused("copy(1, 0, 4, 0, -1)", PLACE, x -> x.copy(1, 0, 4, 0, -1));
        refused("copy(1, 0, 4, 0, 3): beyond the end of a", PLACE, x -> x.copy(1, 0, 4, 0, 3));
        refused("copy(1, 1, 4, 0, 2): beyond the end of a", PLACE, x -> x.copy(1, 1, 4, 0, 2));
        refused("copy(4, 0, 1, 0, 3): beyond the end of b", PLACE, x -> x.copy(4, 0, 1, 0, 3));
        refused("copy(4, 0, 4, 8, 2): beyond the end of b", PLACE, x -> x.copy(4, 0, 4, 8, 2));
        refused("copy(1, 3, 4, 0, 0): of none, beyond the end of a", PLACE, x -> x.copy(1, 3, 4, 0, 0));
        refused("copy(4, 0, 1, 3, 0): of none, beyond the end of b", PLACE, x -> x.copy(4, 0, 1, 3, 0));
        refused("copy(4, most, 4, 0, 1)", PLACE, x -> x.copy(4, MOST, 4, 0, 1));
        refused("copy(4, 1, 4, 1, most)", PLACE, x -> x.copy(4, 1, 4, 1, MOST));
        refused("copy(4, most, 4, most, most)", PLACE, x -> x.copy(4, MOST, 4, MOST, MOST));
        refused("copy(4, least, 4, 0, least)", PLACE, x -> x.copy(4, LEAST, 4, 0, LEAST));
        refused("copy(4, 1, 4, least, 1)", PLACE, x -> x.copy(4, 1, 4, LEAST, 1));
    }

    private static void drop() {
        refused("drop(-1)", BAD, x -> x.drop(-1));
        refused("drop(8)", BAD, x -> x.drop(8));
        refused("drop(6)", NULL, x -> x.drop(6));
        refused("drop(7) of a dropped one", NULL, x -> x.drop(7));
    }

    // ---- towns, acts

    private static void feed() {
        refused("feed(.., 0)", BAD, x -> x.feed(' ', 0));
        refused("feed(.., -1)", BAD, x -> x.feed(' ', -1));
        refused("feed(.., 9)", BAD, x -> x.feed(' ', 9));
        refused("feed(.., most)", BAD, x -> x.feed(' ', MOST));
        refused("feed(.., least)", BAD, x -> x.feed(' ', LEAST));
        for (int n = 1; n <= 9; n++) {
            LeastWants x = new LeastWants();
            int at = n == 9 ? 400 : 401 - n;
            Checks.feed(x, " ".repeat(at));
            C.due("feed(.., " + n + ") behind " + at, x.feed(0, n), n == 9 ? BAD : FULL);
            C.due("count(7): none came", x.count(7), at);
            C.due("town(): none came", x.town(), -1000100 - at);
        }
    }

    /** Of a fault the tape and fault() change, and nothing else. */
    private static void town() {
        String[] wrong = {"law 4 1;", "", "law 3 2;person true;thing 61;", TOWN + "person shy;"};
        for (String text : wrong) {
            LeastWants x = made(), y = made();
            int fault = x.fault();
            Checks.feed(x, text);
            C.due("town() of a fault", x.town() <= -1000100 ? 1 : 0, 1);
            C.due("status() behind it", x.status(), 5);
            C.due("count(7) behind it", x.count(7), 0);
            Checks.feed(x, "law 2 9; pers");
            List<Integer> told = all(x), want = all(y);
            C.due("fault() ahead of it", fault, want.get(0));
            C.due("a town() of a fault changes nothing else",
                told.subList(1, told.size()).equals(want.subList(1, want.size())) ? 1 : 0, 1);
        }
    }

    private static void give() {
        refused("give(-1, 0, 1)", BAD, x -> x.give(-1, 0, 1));
        refused("give(3, 0, 1)", BAD, x -> x.give(3, 0, 1));
        refused("give(1, -1, 1)", BAD, x -> x.give(1, -1, 1));
        refused("give(1, 8, 1)", BAD, x -> x.give(1, 8, 1));
        refused("give(1, 0, 0)", BAD, x -> x.give(1, 0, 0));
        refused("give(1, 0, -1)", BAD, x -> x.give(1, 0, -1));
        refused("give(1, 0, 1000000)", BAD, x -> x.give(1, 0, 1000000));
        refused("give(0, 8, 1): BAD ahead of STATE", BAD, x -> x.give(0, 8, 1));
        refused("give(0, 0, 0): BAD ahead of STATE", BAD, x -> x.give(0, 0, 0));
        refused("give(1, 6, 0): BAD ahead of NULL", BAD, x -> x.give(1, 6, 0));
        refused("give(1, 1, 1000000): BAD ahead of PLACE", BAD, x -> x.give(1, 1, 1000000));
        refused("give(0, 0, 1)", STATE, x -> x.give(0, 0, 1));
        refused("give(2, 0, 1)", STATE, x -> x.give(2, 0, 1));
        refused("give(0, 6, 1): STATE ahead of NULL", STATE, x -> x.give(0, 6, 1));
        refused("give(0, 1, 1): STATE ahead of PLACE", STATE, x -> x.give(0, 1, 1));
        refused("give(0, 2, 1): STATE ahead of an ITEM", STATE, x -> x.give(0, 2, 1));
        refused("give(1, 6, 1)", NULL, x -> x.give(1, 6, 1));
        refused("give(1, 7, 1)", NULL, x -> x.give(1, 7, 1));
        refused("give(1, 1, 1)", PLACE, x -> x.give(1, 1, 1));
        refused("give(1, 5, 1)", PLACE, x -> x.give(1, 5, 1));
        refused("give(1, 2, 1) of an ITEM 6", BAD, x -> x.give(1, 2, 1));
        refused("give(1, 3, 1) of an ITEM -1", BAD, x -> x.give(1, 3, 1));
    }

    private static void offer() {
        refused("offer(-1, 1)", BAD, x -> x.offer(-1, 1));
        refused("offer(3, 1)", BAD, x -> x.offer(3, 1));
        refused("offer(1, 0)", BAD, x -> x.offer(1, 0));
        refused("offer(1, least)", BAD, x -> x.offer(1, LEAST));
        refused("offer(1, 1000000)", BAD, x -> x.offer(1, 1000000));
        refused("offer(0, 0): BAD ahead of STATE", BAD, x -> x.offer(0, 0));
        refused("offer(0, 1)", STATE, x -> x.offer(0, 1));
        refused("offer(2, 999999)", STATE, x -> x.offer(2, 999999));
    }

    private static void backAndUndo() {
        refused("back(-1)", BAD, x -> x.back(-1));
        refused("back(3)", BAD, x -> x.back(3));
        refused("back(1)", STATE, x -> x.back(1));
        LeastWants x = made();
        for (int i = 3; i >= 0; i--) {
            C.due("undo()", x.undo(), i);
        }
        for (int i = 0; i < 3; i++) {
            C.due("undo() of none", x.undo(), STATE);
            C.due("count(4)", x.count(4), 0);
            C.due("thing(0, 1)", x.thing(0, 1), 0);
            C.due("thing(0, 0)", x.thing(0, 0), LeastWants.NONE);
            C.due("coin(0)", x.coin(0), 0);
            C.due("status()", x.status(), 5);
        }
    }

    private static void coinThingWorth() {
        refused("coin(-1)", BAD, x -> x.coin(-1));
        refused("coin(3)", BAD, x -> x.coin(3));
        refused("thing(-1, 0)", BAD, x -> x.thing(-1, 0));
        refused("thing(3, 1)", BAD, x -> x.thing(3, 1));
        refused("thing(0, -1)", BAD, x -> x.thing(0, -1));
        refused("thing(0, 2)", BAD, x -> x.thing(0, 2));
        refused("worth(-1, 0, 0)", BAD, x -> x.worth(-1, 0, 0));
        refused("worth(3, 0, 0)", BAD, x -> x.worth(3, 0, 0));
        refused("worth(0, -1, 1)", BAD, x -> x.worth(0, -1, 1));
        refused("worth(0, 3, 1)", BAD, x -> x.worth(0, 3, 1));
        refused("worth(0, 0, -1)", BAD, x -> x.worth(0, 0, -1));
        refused("worth(0, 0, 2)", BAD, x -> x.worth(0, 0, 2));
    }

    // ---- foretold

    private static void gain() {
        refused("gain(-1, 0, 0, 0)", BAD, x -> x.gain(-1, 0, 0, 0));
        refused("gain(3, 0, 0, 0)", BAD, x -> x.gain(3, 0, 0, 0));
        refused("gain(0, -1, 0, 0)", BAD, x -> x.gain(0, -1, 0, 0));
        refused("gain(0, 8, 0, 0)", BAD, x -> x.gain(0, 8, 0, 0));
        refused("gain(0, 0, -1, 0)", BAD, x -> x.gain(0, 0, -1, 0));
        refused("gain(0, 0, 3, 0)", BAD, x -> x.gain(0, 0, 3, 0));
        refused("gain(0, 0, 0, -1)", BAD, x -> x.gain(0, 0, 0, -1));
        refused("gain(0, 0, 0, 2)", BAD, x -> x.gain(0, 0, 0, 2));
        refused("gain(3, 6, 0, 0): BAD ahead of NULL", BAD, x -> x.gain(3, 6, 0, 0));
        refused("gain(0, 6, 3, 0): BAD ahead of NULL", BAD, x -> x.gain(0, 6, 3, 0));
        refused("gain(0, 1, 0, 2): BAD ahead of PLACE", BAD, x -> x.gain(0, 1, 0, 2));
        refused("gain(0, 6, 0, 0)", NULL, x -> x.gain(0, 6, 0, 0));
        refused("gain(0, 7, 0, 0)", NULL, x -> x.gain(0, 7, 0, 0));
        refused("gain(0, 1, 0, 0)", PLACE, x -> x.gain(0, 1, 0, 0));
        refused("gain(0, 5, 0, 0)", PLACE, x -> x.gain(0, 5, 0, 0));
        refused("gain(0, 2, 0, 0) of an ITEM 6", BAD, x -> x.gain(0, 2, 0, 0));
        refused("gain(0, 3, 0, 0) of an ITEM -1", BAD, x -> x.gain(0, 3, 0, 0));
    }

    private static void best() {
        refused("best(-1, 0, 0)", BAD, x -> x.best(-1, 0, 0));
        refused("best(3, 0, 0)", BAD, x -> x.best(3, 0, 0));
        refused("best(0, -1, 0)", BAD, x -> x.best(0, -1, 0));
        refused("best(0, 8, 0)", BAD, x -> x.best(0, 8, 0));
        refused("best(0, 0, -1)", BAD, x -> x.best(0, 0, -1));
        refused("best(0, 0, 3)", BAD, x -> x.best(0, 0, 3));
        refused("best(3, 6, 0): BAD ahead of NULL", BAD, x -> x.best(3, 6, 0));
        refused("best(0, 6, -1): BAD ahead of NULL", BAD, x -> x.best(0, 6, -1));
        refused("best(0, 1, 3): BAD ahead of PLACE", BAD, x -> x.best(0, 1, 3));
        refused("best(0, 6, 0)", NULL, x -> x.best(0, 6, 0));
        refused("best(0, 1, 0)", PLACE, x -> x.best(0, 1, 0));
        refused("best(0, 5, 0)", PLACE, x -> x.best(0, 5, 0));
        refused("best(0, 2, 1): his own ITEM 6", BAD, x -> x.best(0, 2, 1));
        refused("best(0, 2, 0): another's ITEM 6", BAD, x -> x.best(0, 2, 0));
        refused("best(0, 3, 2): his own ITEM -1", BAD, x -> x.best(0, 3, 2));
    }

    private static void rounds() {
        refused("rounds(-1, 0, 0)", BAD, x -> x.rounds(-1, 0, 0));
        refused("rounds(3, 0, -1)", BAD, x -> x.rounds(3, 0, -1));
        refused("rounds(0, -1, -1)", BAD, x -> x.rounds(0, -1, -1));
        refused("rounds(0, 8, -1)", BAD, x -> x.rounds(0, 8, -1));
        refused("rounds(0, 0, -2)", BAD, x -> x.rounds(0, 0, -2));
        refused("rounds(0, 0, 3)", BAD, x -> x.rounds(0, 0, 3));
        refused("rounds(3, 6, 0): BAD ahead of NULL", BAD, x -> x.rounds(3, 6, 0));
        refused("rounds(0, 6, -2): BAD ahead of NULL", BAD, x -> x.rounds(0, 6, -2));
        refused("rounds(0, 1, 3): BAD ahead of PLACE", BAD, x -> x.rounds(0, 1, 3));
        refused("rounds(0, 6, -1)", NULL, x -> x.rounds(0, 6, -1));
        refused("rounds(0, 1, -1)", PLACE, x -> x.rounds(0, 1, -1));
        refused("rounds(0, 5, 0)", PLACE, x -> x.rounds(0, 5, 0));
        refused("rounds(0, 2, -1) of an ITEM 6", BAD, x -> x.rounds(0, 2, -1));
        refused("rounds(0, 3, 0) of an ITEM -1", BAD, x -> x.rounds(0, 3, 0));
    }

    private static void lost() {
        refused("lost(-1, 0, 0)", BAD, x -> x.lost(-1, 0, 0));
        refused("lost(3, 0, 0)", BAD, x -> x.lost(3, 0, 0));
        refused("lost(0, -1, 0)", BAD, x -> x.lost(0, -1, 0));
        refused("lost(0, 8, 0)", BAD, x -> x.lost(0, 8, 0));
        refused("lost(0, 0, -1)", BAD, x -> x.lost(0, 0, -1));
        refused("lost(0, 0, 2)", BAD, x -> x.lost(0, 0, 2));
        refused("lost(3, 6, 0): BAD ahead of NULL", BAD, x -> x.lost(3, 6, 0));
        refused("lost(0, 6, 2): BAD ahead of NULL", BAD, x -> x.lost(0, 6, 2));
        refused("lost(0, 1, -1): BAD ahead of PLACE", BAD, x -> x.lost(0, 1, -1));
        refused("lost(0, 6, 0)", NULL, x -> x.lost(0, 6, 0));
        refused("lost(0, 1, 1)", PLACE, x -> x.lost(0, 1, 1));
        refused("lost(0, 5, 1)", PLACE, x -> x.lost(0, 5, 1));
        refused("lost(0, 2, 0) of an ITEM 6", BAD, x -> x.lost(0, 2, 0));
        refused("lost(0, 3, 1) of an ITEM -1", BAD, x -> x.lost(0, 3, 1));
    }

    private static void ore() {
        refused("ore(-1, 0)", BAD, x -> x.ore(-1, 0));
        refused("ore(3, 0)", BAD, x -> x.ore(3, 0));
        refused("ore(0, -1)", BAD, x -> x.ore(0, -1));
        refused("ore(0, 8)", BAD, x -> x.ore(0, 8));
        refused("ore(3, 6): BAD ahead of NULL", BAD, x -> x.ore(3, 6));
        refused("ore(-1, 1): BAD ahead of PLACE", BAD, x -> x.ore(-1, 1));
        refused("ore(0, 6)", NULL, x -> x.ore(0, 6));
        refused("ore(0, 1)", PLACE, x -> x.ore(0, 1));
        refused("ore(0, 5)", PLACE, x -> x.ore(0, 5));
        refused("ore(0, 2) of an ITEM 6", BAD, x -> x.ore(0, 2));
        refused("ore(0, 3) of an ITEM -1", BAD, x -> x.ore(0, 3));
    }

    private static void restsLeastHonest() {
        refused("rests(-1, -1)", BAD, x -> x.rests(-1, -1));
        refused("rests(3, -1)", BAD, x -> x.rests(3, -1));
        refused("rests(0, -2)", BAD, x -> x.rests(0, -2));
        refused("rests(0, 3)", BAD, x -> x.rests(0, 3));
        refused("least(-1, 0)", BAD, x -> x.least(-1, 0));
        refused("least(3, 0)", BAD, x -> x.least(3, 0));
        refused("least(0, -1)", BAD, x -> x.least(0, -1));
        refused("least(0, 2)", BAD, x -> x.least(0, 2));
        refused("honest(-1, 0)", BAD, x -> x.honest(-1, 0));
        refused("honest(3, 1)", BAD, x -> x.honest(3, 1));
        refused("honest(0, -1)", BAD, x -> x.honest(0, -1));
        refused("honest(0, 2)", BAD, x -> x.honest(0, 2));
    }

    private static void imageAndRestore() {
        refused("image(-1)", BAD, x -> x.image(-1));
        refused("image(2)", BAD, x -> x.image(2));
        refused("restore(-1)", BAD, x -> x.restore(-1));
        refused("restore(2)", BAD, x -> x.restore(2));
        refused("restore(1) of none", STATE, x -> x.restore(1));
    }

    // ---- asked

    private static void kindAs() {
        refused("kind(-1)", BAD, x -> x.kind(-1));
        refused("kind(3)", BAD, x -> x.kind(3));
        refused("as(-1, 0)", BAD, x -> x.as(-1, 0));
        refused("as(3, 0)", BAD, x -> x.as(3, 0));
        refused("as(0, -1)", BAD, x -> x.as(0, -1));
        refused("as(0, 6)", BAD, x -> x.as(0, 6));
        refused("as(3, 4): BAD ahead of KIND", BAD, x -> x.as(3, 4));
        refused("as(0, 2)", KIND, x -> x.as(0, 2));
        refused("as(1, 3)", KIND, x -> x.as(1, 3));
        refused("as(2, 5)", KIND, x -> x.as(2, 5));
        refused("as(2, 1)", KIND, x -> x.as(2, 1));
    }

    private static void askTraceCount() {
        refused("ask(-1, 0)", BAD, x -> x.ask(-1, 0));
        refused("ask(3, 0)", BAD, x -> x.ask(3, 0));
        refused("ask(0, -1)", BAD, x -> x.ask(0, -1));
        refused("ask(0, 2)", BAD, x -> x.ask(0, 2));
        refused("trace(-1)", LeastWants.NONE, x -> x.trace(-1));
        refused("trace(6)", LeastWants.NONE, x -> x.trace(6));
        refused("trace(16)", LeastWants.NONE, x -> x.trace(16));
        refused("trace(least)", LeastWants.NONE, x -> x.trace(LEAST));
        refused("count(-1)", BAD, x -> x.count(-1));
        refused("count(8)", BAD, x -> x.count(8));
    }

    /** Without a TOWN there is no thing and nobody: BAD, even of a ROW that is missing. */
    private static void withoutATown() {
        LeastWants x = new LeastWants();
        x.row(0, 0, 5);
        x.set(0, 5, 0);
        C.due("give(0, 0, 1)", x.give(0, 0, 1), BAD);
        C.due("give(0, 1, 1)", x.give(0, 1, 1), BAD);
        C.due("offer(0, 1)", x.offer(0, 1), BAD);
        C.due("back(0)", x.back(0), BAD);
        C.due("undo()", x.undo(), STATE);
        C.due("coin(0)", x.coin(0), BAD);
        C.due("thing(0, 0)", x.thing(0, 0), BAD);
        C.due("worth(0, 0, 0)", x.worth(0, 0, 0), BAD);
        C.due("gain(0, 1, 0, 0)", x.gain(0, 1, 0, 0), BAD);
        C.due("best(0, 0, 0)", x.best(0, 0, 0), BAD);
        C.due("rests(0, -1)", x.rests(0, -1), BAD);
        C.due("rounds(0, 0, -1)", x.rounds(0, 0, -1), BAD);
        C.due("least(0, 0)", x.least(0, 0), BAD);
        C.due("lost(0, 1, 0)", x.lost(0, 1, 0), BAD);
        C.due("honest(0, 0)", x.honest(0, 0), BAD);
        C.due("ore(0, 0)", x.ore(0, 0), BAD);
        C.due("image(2)", x.image(2), BAD);
        C.due("image(0)", x.image(0), STATE);
        C.due("image(1)", x.image(1), STATE);
        C.due("restore(2)", x.restore(2), BAD);
        C.due("restore(0)", x.restore(0), STATE);
        C.due("kind(0)", x.kind(0), BAD);
        C.due("as(0, 0)", x.as(0, 0), BAD);
        C.due("ask(0, 0)", x.ask(0, 0), BAD);
        C.due("status()", x.status(), 2);
        C.due("count(1)", x.count(1), 0);
        C.due("count(5)", x.count(5), 0);
        C.due("count(6)", x.count(6), 0);
        Checks.read(x, "law 3 7");
        C.due("count(1) behind a fault", x.count(1), 0);
        C.due("count(5) behind a fault", x.count(5), 0);
        C.due("count(6) behind a fault", x.count(6), 0);
        C.due("image(0) behind a fault", x.image(0), STATE);
        Checks.read(x, "law 3 7;person sly;thing 1;thing 2;#");
        C.due("count(1) behind a late fault", x.count(1), 0);
        C.due("count(2) behind a late fault", x.count(2), 0);
        C.due("kind(0) behind a late fault", x.kind(0), BAD);
        C.due("offer(0, 1) behind a late fault", x.offer(0, 1), BAD);
        C.due("image(1) behind a late fault", x.image(1), STATE);
    }

    private static void fine(String call, int want, Call made) {
        LeastWants x = made();
        C.due("status() ahead of " + call, x.status(), 5);
        C.due(call, made.on(x), want);
        C.due("status() behind " + call, x.status(), 0);
    }

    /** Own sayings for thing 1 are 1, 0, 3; row 0 says 1, 4, 2. */
    private static void whatIsNotRefusedTellsZero() {
        C.due("status() of a new object", new LeastWants().status(), 0);
        fine("row(6, 1, 0)", 0, x -> x.row(6, 1, 0));
        fine("set(0, 0, 9)", 9, x -> x.set(0, 0, 9));
        fine("copy(0, 0, 3, 0, 3)", 3, x -> x.copy(0, 0, 3, 0, 3));
        fine("copy(0, 3, 5, 0, 0) of none", 0, x -> x.copy(0, 3, 5, 0, 0));
        fine("drop(5)", 0, x -> x.drop(5));
        fine("give(1, 0, 1)", 0, x -> x.give(1, 0, 1));
        fine("gain(1, 0, 0, 0)", -16, x -> x.gain(1, 0, 0, 0));
        fine("best(1, 0, 2)", 2, x -> x.best(1, 0, 2));
        fine("rounds(1, 0, -1)", 3, x -> x.rounds(1, 0, -1));
        fine("lost(1, 0, 0)", 40, x -> x.lost(1, 0, 0));
        fine("ore(1, 0)", 4, x -> x.ore(1, 0));
        fine("as(2, 0)", 2, x -> x.as(2, 0));
    }

    private static void leaves(String call, Call made) {
        LeastWants x = made();
        made.on(x);
        C.due("status() behind " + call, x.status(), 5);
    }

    private static void callsWithoutARowLeaveStatus() {
        leaves("feed(0, 1)", x -> x.feed(0, 1));
        leaves("town() of a fault", x -> x.town());
        leaves("town()", x -> Checks.read(x, "on shy;"));
        leaves("fault()", x -> x.fault());
        leaves("offer(1, 1)", x -> x.offer(1, 1));
        leaves("back(0)", x -> x.back(0));
        leaves("undo()", x -> x.undo());
        leaves("coin(0)", x -> x.coin(0));
        leaves("thing(0, 0)", x -> x.thing(0, 0));
        leaves("worth(0, 0, 1)", x -> x.worth(0, 0, 1));
        leaves("rests(1, -1)", x -> x.rests(1, -1));
        leaves("least(1, 0)", x -> x.least(1, 0));
        leaves("honest(1, 1)", x -> x.honest(1, 1));
        leaves("image(1)", x -> x.image(1));
        leaves("restore(0)", x -> x.restore(0));
        leaves("kind(0)", x -> x.kind(0));
        leaves("ask(0, 0)", x -> x.ask(0, 0));
        leaves("trace(0)", x -> x.trace(0));
        leaves("count(0)", x -> x.count(0));
        leaves("status()", x -> x.status());
    }
}
