/** Promises 1 to 5, and 31 as far as rows go: a new object, and its rows. */
public final class RowsTest {
    private static final Checks C = new Checks("RowsTest");
    private static final int NULL = -1000011, PLACE = -1000012, SIZE = -1000014, STORE = -1000015;

    public static void main(String[] args) {
        aNewObject();
        laysRows();
        setsItems();
        copiesItems();
        copiesWithinARow();
        refusesCopies();
        dropsRows();
        tellsTheLatestFinding();
        C.end();
    }

    private static void aNewObject() {
        LeastWants x = new LeastWants();
        for (int what = 0; what <= 7; what++) {
            C.due("new count(" + what + ")", x.count(what), 0);
        }
        C.due("new status()", x.status(), 0);
        C.due("new fault()", x.fault(), 0);
        C.due("new trace(0)", x.trace(0), LeastWants.NONE);
        C.due("new image(0)", x.image(0), LeastWants.STATE);
        C.due("new restore(1)", x.restore(1), LeastWants.STATE);
        C.due("new undo()", x.undo(), LeastWants.STATE);
        C.due("new coin(0)", x.coin(0), LeastWants.BAD);
        C.due("new thing(0, 0)", x.thing(0, 0), LeastWants.BAD);
        for (int row = 0; row < 8; row++) {
            C.due("new drop(" + row + ")", x.drop(row), NULL);
        }
    }

    private static void laysRows() {
        LeastWants x = new LeastWants();
        C.due("row(0, 0, 0)", x.row(0, 0, 0), 0);
        C.due("row(7, 2, 40)", x.row(7, 2, 40), 40);
        C.due("count(0)", x.count(0), 2);
        C.due("set(7, 39, -8)", x.set(7, 39, -8), -8);
        C.due("row(7, 1, 40) again", x.row(7, 1, 40), 40);
        x.row(6, 1, 40);
        C.due("copy of items that are 0 at first", x.copy(7, 39, 6, 0, 1), 1);
        C.due("count(0) of two and one", x.count(0), 3);
        C.due("row(7, 1, 3)", x.row(7, 1, 3), 3);
        C.due("set(7, 3, 1)", x.set(7, 3, 1), PLACE);
        Checks.read(x, "law 0 0;person true;thing 10;");
        x.row(5, 2, 1);
        C.due("ore(0, 5): 0 at first is less than 1", x.ore(0, 5), 1);
        x.drop(5);
        C.due("row(-1, 0, 1)", x.row(-1, 0, 1), LeastWants.BAD);
        C.due("row(8, 0, 1)", x.row(8, 0, 1), LeastWants.BAD);
        C.due("row(0, -1, 1)", x.row(0, -1, 1), LeastWants.BAD);
        C.due("row(0, 3, 1)", x.row(0, 3, 1), LeastWants.BAD);
        C.due("row(0, 0, 41)", x.row(0, 0, 41), LeastWants.BAD);
        C.due("row(0, 3, -1): BAD ahead of SIZE", x.row(0, 3, -1), LeastWants.BAD);
        C.due("row(8, 0, -1): BAD ahead of SIZE", x.row(8, 0, -1), LeastWants.BAD);
        C.due("row(7, 0, -1)", x.row(7, 0, -1), SIZE);
        C.due("row(7, 0, least)", x.row(7, 0, Integer.MIN_VALUE), SIZE);
        C.due("drop(7): what was found changes no row", x.drop(7), 3);
    }

    private static void setsItems() {
        LeastWants x = new LeastWants();
        x.row(0, 0, 2);
        x.row(1, 1, 2);
        x.row(2, 2, 2);
        C.due("byte 127", x.set(0, 0, 127), 127);
        C.due("byte 128", x.set(0, 1, 128), -128);
        C.due("byte 511", x.set(0, 1, 511), -1);
        C.due("byte 256", x.set(0, 1, 256), 0);
        C.due("byte -129", x.set(0, 1, -129), 127);
        C.due("short 32767", x.set(1, 0, 32767), 32767);
        C.due("short 32768", x.set(1, 1, 32768), -32768);
        C.due("short 65536 + 5", x.set(1, 1, 65541), 5);
        C.due("int most", x.set(2, 0, Integer.MAX_VALUE), Integer.MAX_VALUE);
        C.due("int least", x.set(2, 1, Integer.MIN_VALUE), Integer.MIN_VALUE);
        C.due("set(0, 2, 1)", x.set(0, 2, 1), PLACE);
        C.due("set(0, -1, 1)", x.set(0, -1, 1), PLACE);
        C.due("set(3, 0, 1)", x.set(3, 0, 1), NULL);
        C.due("set(3, -1, 1)", x.set(3, -1, 1), NULL);
        C.due("set(-1, 0, 1)", x.set(-1, 0, 1), LeastWants.BAD);
        C.due("set(8, 0, 1)", x.set(8, 0, 1), LeastWants.BAD);
    }

    /** What stands in a row is seen by ore(): only a row that begins with 0 to 5 is heard. */
    private static void copiesItems() {
        LeastWants x = Checks.townOf("law 0 0;person true;thing 30;");
        Checks.lay(x, 0, 9, 9, 2, 9);
        Checks.lay(x, 1, 9, 9, 9);
        C.due("ore(0, 1) ahead", x.ore(0, 1), LeastWants.BAD);
        C.due("copy(0, 2, 1, 0, 1)", x.copy(0, 2, 1, 0, 1), 1);
        C.due("ore(0, 1) behind: 2 is less than 3", x.ore(0, 1), 1);
        C.due("ore(0, 0): the source stays", x.ore(0, 0), LeastWants.BAD);
        C.due("copy(0, 4, 1, 3, 0) of none at the ends", x.copy(0, 4, 1, 3, 0), 0);
        C.due("copy(0, 0, 1, 0, 3)", x.copy(0, 0, 1, 0, 3), 3);
        C.due("row(0, 2, 4) in place of what is there", x.row(0, 2, 4), 4);
        C.due("ore(0, 0) of items that are 0 at first", x.ore(0, 0), 1);
        for (int i = 0; i < 40; i++) {
            x.row(2, 2, 40);
            x.set(2, i, 7);
            x.row(2, 2, 40);
            x.copy(2, i, 0, 0, 1);
            C.due("item " + i + " of a row laid anew", x.ore(0, 0), 1);
        }
        C.due("ore(0, 1) then", x.ore(0, 1), LeastWants.BAD);
    }

    private static void copiesWithinARow() {
        LeastWants x = Checks.townOf("law 0 0;person true;person true;person true;thing 20 20 20;");
        Checks.lay(x, 0, 1, 2, 0, 0);
        C.due("copy(0, 0, 0, 1, 2) onto itself", x.copy(0, 0, 0, 1, 2), 2);
        C.due("1, 1, 2: as they were ahead", x.ore(0, 0), 3);
        Checks.lay(x, 0, 0, 1, 2, 1);
        C.due("copy(0, 1, 0, 0, 3) onto itself", x.copy(0, 1, 0, 0, 3), 3);
        C.due("1, 2, 1: as they were ahead", x.ore(0, 0), 5);
    }

    private static void refusesCopies() {
        LeastWants x = new LeastWants();
        x.row(0, 0, 3);
        x.row(1, 0, 5);
        x.row(2, 1, 5);
        C.due("copy(8, 0, 0, 0, 0)", x.copy(8, 0, 0, 0, 0), LeastWants.BAD);
        C.due("copy(0, 0, -1, 0, 0)", x.copy(0, 0, -1, 0, 0), LeastWants.BAD);
        C.due("copy(3, 0, 8, 0, 0): BAD ahead of NULL", x.copy(3, 0, 8, 0, 0), LeastWants.BAD);
        C.due("copy(3, 0, 0, 0, 0)", x.copy(3, 0, 0, 0, 0), NULL);
        C.due("copy(0, -1, 3, 0, 0): NULL ahead of PLACE", x.copy(0, -1, 3, 0, 0), NULL);
        C.due("copy(0, 0, 2, 0, 1)", x.copy(0, 0, 2, 0, 1), STORE);
        C.due("copy(0, 0, 2, 0, 0): STORE of none, too", x.copy(0, 0, 2, 0, 0), STORE);
        C.due("copy(0, 0, 2, 0, -1): STORE ahead of PLACE", x.copy(0, 0, 2, 0, -1), STORE);
        C.due("copy(0, -1, 1, 0, 1)", x.copy(0, -1, 1, 0, 1), PLACE);
        C.due("copy(0, 0, 1, -1, 1)", x.copy(0, 0, 1, -1, 1), PLACE);
        C.due("copy(0, 0, 1, 0, -1)", x.copy(0, 0, 1, 0, -1), PLACE);
        C.due("copy(0, 1, 1, 0, 3)", x.copy(0, 1, 1, 0, 3), PLACE);
        C.due("copy(1, 0, 0, 1, 3)", x.copy(1, 0, 0, 1, 3), PLACE);
        C.due("copy(0, 4, 1, 0, 0)", x.copy(0, 4, 1, 0, 0), PLACE);
        C.due("copy(0, most, 1, 0, most)", x.copy(0, Integer.MAX_VALUE, 1, 0, Integer.MAX_VALUE), PLACE);
        C.due("copy(0, 1, 1, most, 1)", x.copy(0, 1, 1, Integer.MAX_VALUE, 1), PLACE);
        C.due("copy(0, 0, 1, 0, least)", x.copy(0, 0, 1, 0, Integer.MIN_VALUE), PLACE);
        C.due("copy(0, 0, 1, 2, 3)", x.copy(0, 0, 1, 2, 3), 3);
    }

    private static void dropsRows() {
        LeastWants x = new LeastWants();
        x.row(4, 1, 17);
        C.due("drop(4)", x.drop(4), 17);
        C.due("count(0)", x.count(0), 0);
        C.due("drop(4) again", x.drop(4), NULL);
        C.due("set(4, 0, 0) of a dropped one", x.set(4, 0, 0), NULL);
        C.due("drop(-1)", x.drop(-1), LeastWants.BAD);
        C.due("drop(8)", x.drop(8), LeastWants.BAD);
    }

    private static void tellsTheLatestFinding() {
        LeastWants x = Checks.townOf("law 0 0;person true;person sly;thing 30 30;");
        x.row(0, 0, 1);
        C.due("status() behind a row", x.status(), 0);
        x.set(0, 1, 0);
        C.due("status() of PLACE", x.status(), 2);
        x.set(9, 0, 0);
        x.row(0, 0, 41);
        C.due("status() stays behind BAD", x.status(), 2);
        x.count(0);
        x.ask(0, 0);
        x.offer(0, 5);
        x.rests(0, 0);
        x.honest(0, 0);
        C.due("status() stays behind calls without a ROW", x.status(), 2);
        x.set(1, 0, 0);
        C.due("status() of NULL", x.status(), 1);
        x.row(1, 0, -3);
        C.due("status() of SIZE", x.status(), 4);
        x.row(1, 1, 1);
        x.copy(0, 0, 1, 0, 1);
        C.due("status() of STORE", x.status(), 5);
        x.give(0, 2, 5);
        C.due("status() stays behind STATE", x.status(), 5);
        x.back(0);
        x.give(0, 2, 5);
        C.due("status() of give with no ROW", x.status(), 1);
        x.gain(0, 0, 0, 0);
        C.due("status() of gain with too short a ROW", x.status(), 2);
        Checks.lay(x, 0, 0, 6);
        C.due("status() behind set", x.status(), 0);
        x.set(0, 2, 0);
        x.lost(0, 0, 0);
        C.due("status() stays behind an ITEM that is BAD", x.status(), 2);
        x.set(0, 1, 5);
        x.set(0, 2, 0);
        x.rounds(0, 0, -1);
        C.due("status() behind rounds", x.status(), 0);
        x.as(0, 2);
        C.due("status() of KIND", x.status(), 3);
        x.as(2, 0);
        C.due("status() stays behind as() that is BAD", x.status(), 3);
        x.as(1, 1);
        C.due("status() behind as()", x.status(), 0);
    }
}
