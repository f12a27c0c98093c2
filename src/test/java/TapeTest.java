/** Promises 6 to 8: the tape, towns that are read, and their faults. */
public final class TapeTest {
    private static final Checks C = new Checks("TapeTest");
    private static final String LAW = "law 1 3;";
    private static final String ONE = LAW + "person true;";

    public static void main(String[] args) {
        feedsTheTape();
        fillsTheTape();
        readsTowns();
        readsBlanks();
        tellsMisplacedTokens();
        tellsWhatIsNoToken();
        tellsNumbersNotAsTold();
        tellsWhatHasNoRoom();
        aFaultChangesNothingElse();
        aTownBeginsAnew();
        nothingOfEarlierTextsIsLeft();
        C.end();
    }

    private static void feedsTheTape() {
        LeastWants x = new LeastWants();
        C.due("feed(0, 0)", x.feed(0, 0), LeastWants.BAD);
        C.due("feed(0, 9)", x.feed(0, 9), LeastWants.BAD);
        C.due("feed(0, -1)", x.feed(0, -1), LeastWants.BAD);
        C.due("feed(.., 4): the lowest 4", x.feed(-1L << 32 | Checks.packed("law "), 4), 4);
        C.due("feed(.., 8)", x.feed(Checks.packed("2 13;per"), 8), 12);
        C.due("feed(.., 8)", x.feed(Checks.packed("son rich"), 8), 20);
        C.due("feed(.., 1)", x.feed(';', 1), 21);
        C.due("count(7)", x.count(7), 21);
        C.due("town()", x.town(), 1);
        C.due("count(5)", x.count(5), 2);
        C.due("count(6)", x.count(6), 13);
        C.due("kind(0)", x.kind(0), 4);
        C.due("count(7) behind town()", x.count(7), 0);
        x.feed(-1L, 8);
        C.due("eight bytes of 255", x.town(), -1000100);
    }

    private static void fillsTheTape() {
        LeastWants x = new LeastWants();
        for (int i = 1; i <= 49; i++) {
            x.feed(Checks.packed("        "), 8);
        }
        C.due("feed(.., 7)", x.feed(Checks.packed("       "), 7), 399);
        C.due("feed(.., 2) of no room", x.feed(Checks.packed("  "), 2), LeastWants.FULL);
        C.due("feed(.., 9): BAD ahead of FULL", x.feed(0, 9), LeastWants.BAD);
        C.due("count(7): none came", x.count(7), 399);
        C.due("feed(.., 1) at last", x.feed(' ', 1), 400);
        C.due("feed(.., 1) too many", x.feed(' ', 1), LeastWants.FULL);
        C.due("town() of blanks", x.town(), -1000500);
        C.due("fault()", x.fault(), 1);
        C.due("feed(.., 1) anew", x.feed(' ', 1), 1);
    }

    private static void readsTowns() {
        LeastWants x = new LeastWants();
        C.due("every sort", Checks.read(x, "law 3 20;person true;person sly;person shy;person rich;"), 4);
        for (int i = 0; i < 4; i++) {
            C.due("kind(" + i + ")", x.kind(i), i + 1);
        }
        C.due("count(2)", x.count(2), 0);
        C.due("a widow, five things", Checks.read(x, "law 0 0;person widow;person sly;thing 0 60;"
            + "thing 30 31;thing 007 7;thing 60 0;thing 1 2;"), 2);
        C.due("kind(0)", x.kind(0), 5);
        C.due("count(1)", x.count(1), 2);
        C.due("count(2)", x.count(2), 5);
        C.due("count(5)", x.count(5), 0);
        C.due("worth(0, 0, 0)", x.worth(0, 0, 0), -30);
        C.due("worth(0, 1, 0)", x.worth(0, 1, 0), 30);
        C.due("worth(1, 1, 0)", x.worth(1, 1, 0), 1);
        C.due("worth(2, 0, 0)", x.worth(2, 0, 0), -23);
        C.due("worth(4, 1, 0)", x.worth(4, 1, 0), -28);
        C.due("fault() when all was sound", x.fault(), 0);
    }

    private static void readsBlanks() {
        LeastWants x = new LeastWants();
        C.due("none where one ends without", Checks.read(x, "law1 3;person true;thing5;"), 1);
        C.due("many", Checks.read(x, " \n law \n1\n\n3 ; person\nsly ;\n thing 5 ; \n"), 1);
        C.due("kind(0)", x.kind(0), 2);
        C.due("a name runs on", Checks.read(x, LAW + "persontrue;"), -1000108);
        C.due("a number runs on", Checks.read(x, "law 13;person true;"), -1000104);
        C.due("fault() of 13", x.fault(), 2);
        C.due("no other blanks", Checks.read(x, "law\t1 3;person true;"), -1000103);
        C.due("fault() of byte 9", x.fault(), 1);
        C.due("nor byte 13", Checks.read(x, ONE + "\r\n"), -1000120);
    }

    private static void fault(String text, int place, int number) {
        LeastWants x = new LeastWants();
        C.due("town() of " + text, Checks.read(x, text), -1000100 - place);
        C.due("fault() of " + text, x.fault(), number);
    }

    private static void tellsMisplacedTokens() {
        fault("", 0, 1);
        fault("  ", 2, 1);
        fault("law", 3, 1);
        fault("law 1", 5, 1);
        fault("law 1 ", 6, 1);
        fault("law 1 3", 7, 1);
        fault(LAW, 8, 1);
        fault(LAW + " ", 9, 1);
        fault(LAW + "person", 14, 1);
        fault(LAW + "person shy", 18, 1);
        fault(ONE + "thing", 25, 1);
        fault(ONE + "thing 5", 27, 1);
        fault("person true;", 0, 1);
        fault("lawyer 1 3;", 0, 1);
        fault("la 1 3;", 0, 1);
        fault("saw 1 3;", 0, 1);
        fault("lawz 1 3;", 0, 1);
        fault("alaw 1 3;", 0, 1);
        fault("law;", 3, 1);
        fault("law 1;", 5, 1);
        fault("law 1 3 4;", 8, 1);
        fault("law one 3;", 4, 1);
        fault(LAW + ";", 8, 1);
        fault(LAW + "thing 5;", 8, 1);
        fault(LAW + "law 1 3;", 8, 1);
        fault(LAW + "person dude;", 15, 1);
        fault(LAW + "person tru;", 15, 1);
        fault(LAW + "person truer;", 15, 1);
        fault(LAW + "person 1;", 15, 1);
        fault(LAW + "person;", 14, 1);
        fault(LAW + "person true sly;", 20, 1);
        fault(ONE + ";", 20, 1);
        fault(ONE + "7", 20, 1);
        fault(ONE + "law 1 3;", 20, 1);
        fault(ONE + "thing;", 25, 1);
        fault(ONE + "thing 5 5;", 28, 1);
        fault(ONE + "person shy;thing 5;", 38, 1);
        fault(ONE + "thing x;", 26, 1);
        fault(ONE + "thing 5;person true;", 28, 1);
    }

    private static void tellsWhatIsNoToken() {
        fault("Law 1 3;", 0, 1);
        fault("laW 1 3;", 0, 1);
        fault("law# 1 3;", 3, 1);
        fault("law -1 3;", 4, 1);
        fault("law 0001 3;", 4, 1);
        fault("law 9999 3;", 4, 1);
        fault(ONE + "thing 0005;", 26, 1);
        fault(ONE + "thing 12345678901234567890;", 26, 1);
        fault(ONE + "1234", 20, 1);
        fault(ONE + ".", 20, 1);
        fault(ONE + (char) 0, 20, 1);
        fault(ONE + (char) 233, 20, 1);
        fault(ONE + "`", 20, 1);
        fault(ONE + "{", 20, 1);
        fault(ONE + "/", 20, 1);
        fault(ONE + ":", 20, 1);
        fault("law 4#", 4, 2);
    }

    private static void tellsNumbersNotAsTold() {
        fault("law 4 3;", 4, 2);
        fault("law 999 3;", 4, 2);
        fault("law 1 21;", 6, 2);
        fault("law 4 21;", 4, 2);
        fault("law 4", 4, 2);
        fault(ONE + "thing 61;", 26, 2);
        fault(ONE + "thing 999", 26, 2);
        fault(ONE + "person shy;thing 60 061;", 40, 2);
    }

    private static void tellsWhatHasNoRoom() {
        String four = ONE + "person sly;person shy;person rich;";
        fault(four + "person widow;", four.length(), 3);
        fault(four + "person", four.length(), 3);
        fault(four + " persons", four.length() + 1, 1);
        String five = ONE + "thing 1;thing 2;thing 3;thing 4;thing 5;";
        fault(five + "thing 6;", five.length(), 3);
        fault(five + " thing", five.length() + 1, 3);
        fault(five + "person true;", five.length(), 1);
        fault(four + "thing 1 2 3 4;person sly;", four.length() + 14, 1);
        LeastWants x = new LeastWants();
        C.due("four people", Checks.read(x, four), 4);
        C.due("five things", Checks.read(x, five), 1);
        C.due("count(2)", x.count(2), 5);
    }

    private static void aFaultChangesNothingElse() {
        LeastWants x = Checks.townOf("law 1 3;person rich;person true;thing 50 60;");
        C.due("offer(0, 10)", x.offer(0, 10), 0);
        x.ask(0, 0);
        C.due("town() of a fault", Checks.read(x, "law 2 7;person sly;thing 61;"), -1000125);
        C.due("fault()", x.fault(), 2);
        C.due("count(7): the tape is empty", x.count(7), 0);
        C.due("count(1)", x.count(1), 2);
        C.due("count(2)", x.count(2), 1);
        C.due("count(3)", x.count(3), 1);
        C.due("count(4)", x.count(4), 1);
        C.due("count(5)", x.count(5), 1);
        C.due("count(6)", x.count(6), 3);
        C.due("kind(0)", x.kind(0), 4);
        C.due("thing(0, 0)", x.thing(0, 0), 0);
        C.due("worth(0, 1, 0)", x.worth(0, 1, 0), 30);
        C.due("trace(0)", x.trace(0), 13);
        C.due("coin(0): 3 times 5", x.coin(0), -15);
        C.due("town() of another fault", Checks.read(x, "law 2 7"), -1000107);
        C.due("fault() of the latest", x.fault(), 1);
        C.due("a sound town()", Checks.read(x, ONE), 1);
        C.due("fault() stays", x.fault(), 1);
    }

    private static void aTownBeginsAnew() {
        LeastWants x = Checks.townOf("law 1 3;person rich;person true;thing 50 60;");
        Checks.lay(x, 3, 1, 2);
        x.offer(0, 10);
        x.back(0);
        x.offer(0, 10);
        x.image(1);
        C.due("coin(0) ahead", x.coin(0), -30);
        C.due("town()", Checks.read(x, "law 2 7;person sly;person true;thing 20 10;"), 2);
        C.due("count(3)", x.count(3), 0);
        C.due("count(4)", x.count(4), 0);
        C.due("undo()", x.undo(), LeastWants.STATE);
        C.due("coin(0)", x.coin(0), 0);
        C.due("thing(0, 0)", x.thing(0, 0), LeastWants.NONE);
        C.due("thing(0, 1)", x.thing(0, 1), 0);
        C.due("worth(0, 0, 0)", x.worth(0, 0, 0), -10);
        C.due("ROWS stay", x.drop(3), 2);
        C.due("restore(1): IMAGES stay", x.restore(1), 1);
        C.due("thing(0, 0) of the image", x.thing(0, 0), 0);
        C.due("coin(0) of the image", x.coin(0), -30);
    }

    private static void nothingOfEarlierTextsIsLeft() {
        LeastWants x = Checks.townOf("law 3 20;person rich;person true;thing 50 60;thing 0 0;");
        x.offer(0, 10);
        x.back(0);
        x.offer(0, 10);
        C.due("a tape that ends where a longer name stood", Checks.read(x, "la"), -1000100);
        C.due("an end where a number went on", Checks.read(x, "law 3 2"), -1000107);
        C.due("an end where a name went on", Checks.read(x, "law 3 20;person r"), -1000116);
        C.due("fault() of it", x.fault(), 1);
        C.due("a fault behind things", Checks.read(x, ONE + "thing 5;thing 6;#"), -1000136);
        for (int i = 0; i < 3; i++) {
            C.due("a town of one", Checks.read(x, ONE), 1);
            C.due("count(1)", x.count(1), 1);
            C.due("count(2)", x.count(2), 0);
            C.due("coin(0)", x.coin(0), 0);
            C.due("a town of two", Checks.read(x, LAW + "person shy;person shy;thing 30 30;"), 2);
            C.due("thing(0, 0)", x.thing(0, 0), LeastWants.NONE);
            C.due("thing(0, 1)", x.thing(0, 1), 0);
            C.due("coin(0)", x.coin(0), 0);
            C.due("coin(1)", x.coin(1), 0);
            x.offer(0, 2);
            x.back(0);
            x.offer(0, 2);
            C.due("coin(0) of 3 times 2 and 3 times 1", x.coin(0), -9);
        }
    }
}
