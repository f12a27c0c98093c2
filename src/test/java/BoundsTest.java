/**
 * Both sides of each bound that the document names, promise by promise; above each group
 * stands the sentence that it looks at. What is refused, and in which order, is in RefusalsTest.
 */
public final class BoundsTest {
    private static final Checks C = new Checks("BoundsTest");
    private static final int BAD = LeastWants.BAD, STATE = LeastWants.STATE, FULL = LeastWants.FULL, NONE = LeastWants.NONE;
    private static final int PLACE = -1000012, FAULT = -1000100;
    private static final String ONE = "law 0 0;person true;";
    private static final String FOUR = "person true;person true;person true;person true;";

    public static void main(String[] args) {
        rowsAndLanes();
        itemsAreCutToTheLane();
        itemsAreZeroAtFirst();
        copiesUpToTheEnds();
        copiesAsTheyWereAhead();
        feedsOneToEight();
        tapeOfFourHundred();
        numbersOfTheText();
        figuresOfTheText();
        blanksOfTheText();
        signsOfTheText();
        peopleAndThings();
        theFirstTokenThatHasAFault();
        theLatestFault();
        seeds();
        sayings();
        theLot();
        theNextSaying();
        whoPaysWhom();
        ownSayings();
        wornThings();
        whoeverHasIt();
        twentyFourActs();
        actsGoRound();
        fractions();
        bestOfSeveral();
        rests();
        turns();
        turnsThatGoRound();
        turnsOfFour();
        leastAndMost();
        lostOfSeveral();
        honestIfNobodyGains();
        oreIsLess();
        heldThingsAreForetold();
        images();
        kinds();
        asks();
        counts();
        C.end();
    }

    private static LeastWants town(int pays, int fee, String rest) {
        return Checks.townOf("law " + pays + " " + fee + ";" + rest);
    }

    // ---- rows

    /** "ROWS 0 .. 7 ... have a LANE (0 .. 2) and 0 to 40 ITEMS." */
    private static void rowsAndLanes() {
        LeastWants x = new LeastWants();
        for (int row = -1; row <= 8; row++) {
            boolean is = row >= 0 && row <= 7;
            C.due("row(" + row + ", 0, 40)", x.row(row, 0, 40), is ? 40 : BAD);
            C.due("set(" + row + ", 39, 3)", x.set(row, 39, 3), is ? 3 : BAD);
            C.due("set(" + row + ", 40, 3)", x.set(row, 40, 3), is ? PLACE : BAD);
            C.due("copy to " + row, x.copy(0, 0, row, 0, 40), is ? 40 : BAD);
            C.due("copy from " + row, x.copy(row, 0, 0, 0, 40), is ? 40 : BAD);
            C.due("count(0)", x.count(0), Math.max(0, Math.min(8, row + 1)));
        }
        for (int lane = -1; lane <= 3; lane++) {
            C.due("row(0, " + lane + ", 0)", x.row(0, lane, 0), lane >= 0 && lane <= 2 ? 0 : BAD);
        }
        for (int n = -1; n <= 41; n++) {
            int want = n < 0 ? -1000014 : n > 40 ? BAD : n;
            C.due("row(0, 1, " + n + ")", x.row(0, 1, n), want);
        }
        C.due("drop(0): the last that was laid", x.drop(0), 40);
        for (int row = 1; row <= 7; row++) {
            C.due("drop(" + row + ")", x.drop(row), 40);
            C.due("count(0)", x.count(0), 7 - row);
        }
        C.due("row(0, 0, 0)", x.row(0, 0, 0), 0);
        C.due("set(0, 0, 1) of no items", x.set(0, 0, 1), PLACE);
        C.due("drop(0) of no items", x.drop(0), 0);
    }

    /** "ITEM i becomes v, its lowest bits, as many as the LANE has (read with their sign)." */
    private static void itemsAreCutToTheLane() {
        int[] told = {0, 127, 128, -128, -129, 255, 256, 32767, 32768, -32768, -32769, 65535, 65536,
            Integer.MAX_VALUE, Integer.MIN_VALUE};
        int[] bytes = {0, 127, -128, -128, 127, -1, 0, -1, 0, 0, -1, -1, 0, -1, 0};
        int[] shorts = {0, 127, 128, -128, -129, 255, 256, 32767, -32768, -32768, 32767, -1, 0, -1, 0};
        LeastWants x = new LeastWants();
        for (int lane = 0; lane <= 2; lane++) {
            x.row(lane, lane, told.length);
            for (int i = 0; i < told.length; i++) {
                int want = lane == 0 ? bytes[i] : lane == 1 ? shorts[i] : told[i];
                C.due("set(" + lane + ", " + i + ", " + told[i] + ")", x.set(lane, i, told[i]), want);
            }
        }
        // What stands there is what was told, not what was given: 256 + 5 in a byte is a saying.
        Checks.read(x, ONE + "thing 30;");
        x.row(3, 0, 1);
        x.set(3, 0, 261);
        C.due("best by 261 in a byte", x.best(0, 3, 0), 0);
        x.row(3, 1, 1);
        x.set(3, 0, 261);
        C.due("best by 261 in a short", x.best(0, 3, 0), BAD);
        x.set(3, 0, 65536 + 5);
        C.due("best by 65541 in a short", x.best(0, 3, 0), 0);
        x.row(3, 2, 1);
        x.set(3, 0, 65536 + 5);
        C.due("best by 65541 in an int", x.best(0, 3, 0), BAD);
    }

    /** "0 at first"; a ROW stands "in place of what is there". */
    private static void itemsAreZeroAtFirst() {
        LeastWants x = town(0, 0, FOUR + "thing 10 10 10 10;");
        for (int lane = 0; lane <= 2; lane++) {
            x.row(1, lane, 4);
            C.due("ore(0, 1) of lane " + lane, x.ore(0, 1), 15);
            for (int i = 0; i < 4; i++) {
                x.set(1, i, 1);
                C.due("ore(0, 1) behind set", x.ore(0, 1), 15 & ~((2 << i) - 1));
            }
            C.due("row(1, ..) once more", x.row(1, lane, 4), 4);
            C.due("ore(0, 1) once more", x.ore(0, 1), 15);
            x.set(1, 0, 1);
            x.drop(1);
            x.row(1, lane, 4);
            C.due("ore(0, 1) behind drop", x.ore(0, 1), 15);
        }
    }

    /** "PLACE (i, j, n below 0, or beyond an end)." */
    private static void copiesUpToTheEnds() {
        LeastWants x = new LeastWants();
        x.row(0, 1, 6);
        x.row(1, 1, 4);
        for (int i = -1; i <= 7; i++) {
            for (int j = -1; j <= 5; j++) {
                for (int n = -1; n <= 7; n++) {
                    boolean is = i >= 0 && j >= 0 && n >= 0 && i + n <= 6 && j + n <= 4;
                    C.due("copy(0, " + i + ", 1, " + j + ", " + n + ")", x.copy(0, i, 1, j, n), is ? n : PLACE);
                    if ((i + 1) % 3 == 0 && n == 7) {
                        x = new LeastWants();
                        x.row(0, 1, 6);
                        x.row(1, 1, 4);
                    }
                }
            }
        }
        C.due("drop(0)", x.drop(0), 6);
        C.due("drop(1)", x.drop(1), 4);
    }

    /** "n ITEMS of a from i on come to b from j on, as they were ahead." */
    private static void copiesAsTheyWereAhead() {
        for (int to = 0; to <= 4; to++) {
            for (int from = 0; from <= 4; from++) {
                LeastWants x = town(0, 0, FOUR + "thing 30 30 30 30;");
                int[] items = {1, 5, 2, 5, 4, 0, 5, 1};
                Checks.lay(x, 0, items);
                x.copy(0, from, 0, to, 4);
                int[] want = items.clone();
                System.arraycopy(items, from, want, to, 4);
                for (int i = 0; i + 4 <= 8; i++) {
                    int bits = 0;
                    for (int p = 0; p < 4; p++) {
                        bits |= want[i + p] < 3 ? 1 << p : 0;
                    }
                    x.row(1, 2, 4);
                    x.copy(0, i, 1, 0, 4);
                    C.due("from " + from + " to " + to + ", items " + i + " on", x.ore(0, 1), bits);
                }
            }
        }
    }

    // ---- texts

    /** "The lowest n bytes of w (1 to 8), the highest of them first." */
    private static void feedsOneToEight() {
        String text = ";" + "p".repeat(7);
        for (int n = -1; n <= 10; n++) {
            LeastWants x = new LeastWants();
            boolean is = n >= 1 && n <= 8;
            C.due("feed(.., " + n + ")", x.feed(Checks.packed(text), n), is ? n : BAD);
            C.due("count(7)", x.count(7), is ? n : 0);
        }
        String rest = "0;person sly;";
        for (int n = 1; n <= 8; n++) {
            LeastWants x = new LeastWants();
            Checks.feed(x, "law 3 2");
            long higher = n == 8 ? 0 : -1L << 8 * n;
            C.due("feed(.., " + n + ")", x.feed(higher | Checks.packed(rest.substring(0, n)), n), 7 + n);
            Checks.feed(x, rest.substring(n));
            C.due("town()", x.town(), 1);
            C.due("count(6)", x.count(6), 20);
        }
        LeastWants x = new LeastWants();
        Checks.feed(x, "law 0 0;");
        x.feed(0x8000000000000020L, 8);
        C.due("a highest byte of 128", x.town(), FAULT - 8);
    }

    /** "THE TAPE has at most 400 bytes." "FULL: none comes." "The tape, empty then, is read." */
    private static void tapeOfFourHundred() {
        for (int n = 1; n <= 8; n++) {
            LeastWants x = new LeastWants();
            Checks.feed(x, ONE + " ".repeat(400 - ONE.length() - n));
            C.due("feed(.., " + n + ") up to 400", x.feed(Checks.packed("        "), n), 400);
            C.due("feed(.., 1) of no room", x.feed(' ', 1), FULL);
            C.due("feed(.., 8) of no room", x.feed(' ', 8), FULL);
            C.due("count(7)", x.count(7), 400);
            C.due("town() of 400 bytes", x.town(), 1);
            C.due("count(7) behind town()", x.count(7), 0);
            C.due("town() of no bytes", x.town(), FAULT);
        }
        LeastWants x = new LeastWants();
        Checks.feed(x, ONE + " ".repeat(400 - ONE.length() - 1) + "#");
        C.due("a fault at the last byte", x.town(), FAULT - 399);
        Checks.feed(x, "law 0 0;" + " ".repeat(392));
        C.due("a fault at the end of 400 bytes", x.town(), FAULT - 400);
        Checks.feed(x, "law 0 0;" + " ".repeat(386) + "person");
        C.due("a word up to the end of 400 bytes", x.town(), FAULT - 400);
    }

    private static void reads(String text, int people) {
        LeastWants x = new LeastWants();
        C.due("town() of " + text, Checks.read(x, text), people);
        C.due("fault() of " + text, x.fault(), 0);
    }

    private static void fault(String text, int place, int number) {
        LeastWants x = new LeastWants();
        C.due("town() of " + text, Checks.read(x, text), FAULT - place);
        C.due("fault() of " + text, x.fault(), number);
    }

    /** "'law' PAYS FEE ';' (0 to 3; 0 to 20)"; "NUMBERS ... (0 to 60 each ...)". */
    private static void numbersOfTheText() {
        for (int pays = 0; pays <= 3; pays++) {
            for (int fee = 0; fee <= 20; fee += 20) {
                LeastWants x = town(pays, fee, "person true;");
                C.due("count(5)", x.count(5), pays);
                C.due("count(6)", x.count(6), fee);
            }
        }
        fault("law 4 0;person true;", 4, 2);
        fault("law 0 21;person true;", 6, 2);
        fault("law 0 100;person true;", 6, 2);
        LeastWants x = town(0, 0, "person true;person true;thing 0 60;thing 60 0;");
        C.due("worth(0, 0, 0)", x.worth(0, 0, 0), -30);
        C.due("worth(0, 1, 0)", x.worth(0, 1, 0), 30);
        C.due("worth(1, 0, 0)", x.worth(1, 0, 0), 30);
        C.due("worth(1, 1, 0)", x.worth(1, 1, 0), -30);
        fault(ONE + "thing 61;", 26, 2);
        fault(ONE + "thing 60;thing 999;", 35, 2);
        fault("law 0 0;person true;person true;thing 61 0;", 38, 2);
        fault("law 0 0;person true;person true;thing 0 61;", 40, 2);
    }

    /** "NUMBERS (figures, 3 at most)"; "a run of four figures or more, at its first". */
    private static void figuresOfTheText() {
        reads("law 000 020;person true;thing 060;", 1);
        reads("law 003 000;person true;thing 000;thing 00;thing 0;", 1);
        fault("law 0000 0;person true;", 4, 1);
        fault("law 0 0000;person true;", 6, 1);
        fault(ONE + "thing 0060;", 26, 1);
        fault(ONE + "thing 6000;", 26, 1);
        fault(ONE + "thing 000000000000000000000000000000000000000000", 26, 1);
        fault(ONE + "thing 99999999999;", 26, 1);
        fault(ONE + "thing 100;", 26, 2);
        fault("0000", 0, 1);
        fault("law 0 0; 1234", 9, 1);
    }

    /** "bytes 32 and 10 ahead of, between, behind these, as many as wanted (none is needed ..)". */
    private static void blanksOfTheText() {
        reads("law0 0;person true;thing0;", 1);
        reads("law0 0;person true;person sly;thing0 0;", 2);
        reads("\n\n   law \n 0 \n 0 \n ; \n person \n true \n ; \n thing \n 0 \n ; \n ", 1);
        reads("law\n0\n0;person\ntrue;", 1);
        int[] others = {0, 1, 8, 9, 11, 12, 13, 31, 33, 34, 127, 128, 160, 255};
        for (int b : others) {
            fault("law" + (char) b + "0 0;person true;", 3, 1);
            fault((char) b + ONE, 0, 1);
            fault(ONE + (char) b, 20, 1);
            fault("law 0 0;person" + (char) b + "true;", 14, 1);
        }
        fault("law00;person true;", 5, 1);
        fault("law 00;person true;", 6, 1);
        fault("law 0 0;persontrue;", 8, 1);
        fault("law 0 0;person true;person sly;thing00;", 38, 1);
        reads(ONE + "  \n", 1);
    }

    /** "TOKENS: NAMES (letters a to z), NUMBERS (figures), SIGNS ;". */
    private static void signsOfTheText() {
        char[] none = {'!', '/', ':', '<', '@', 'A', 'L', 'Z', '[', '`', '{', '~', ',', '.', '-', '+'};
        for (char c : none) {
            fault(c + ONE, 0, 1);
            fault("law" + c + " 0 0;person true;", 3, 1);
            fault("law 0" + c + "0;person true;", 5, 1);
            fault("law 0 0" + c + "person true;", 7, 1);
            fault("law 0 0;person true" + c, 19, 1);
            fault(ONE + c, 20, 1);
        }
        fault("law 0 0;;person true;", 8, 1);
        fault("law 0 0;person true;;", 20, 1);
        fault(";", 0, 1);
        fault("7", 0, 1);
        fault("a", 0, 1);
        fault("z", 0, 1);
    }

    /** "PEOPLE 0 .. 3, 4 at most"; "as many NUMBERS as there are PEOPLE"; "THINGS 0 .. 4, 5 at most". */
    private static void peopleAndThings() {
        for (int people = 0; people <= 5; people++) {
            String text = "law 0 0;" + "person true;".repeat(people);
            if (people == 0) {
                fault(text, 8, 1);
            } else if (people == 5) {
                fault(text, 56, 3);
            } else {
                reads(text, people);
            }
        }
        for (int people = 1; people <= 4; people++) {
            String law = "law 0 0;" + "person true;".repeat(people);
            for (int numbers = 0; numbers <= 5; numbers++) {
                String text = law + "thing" + " 7".repeat(numbers) + ";";
                if (numbers == people) {
                    reads(text, people);
                } else {
                    fault(text, law.length() + 5 + (numbers < people ? 2 * numbers : 2 * people + 1), 1);
                }
            }
            for (int things = 0; things <= 6; things++) {
                String thing = "thing" + " 7".repeat(people) + ";";
                String text = law + thing.repeat(things);
                LeastWants x = new LeastWants();
                int behind = law.length() + 5 * thing.length();
                C.due(things + " things", Checks.read(x, text), things <= 5 ? people : FAULT - behind);
                C.due("fault()", x.fault(), things <= 5 ? 0 : 3);
                C.due("count(2)", x.count(2), things <= 5 ? things : 0);
            }
        }
    }

    /** "FAULTS, the first TOKEN that has one (its first byte), of one TOKEN the least." */
    private static void theFirstTokenThatHasAFault() {
        fault("law 4 21;", 4, 2);
        fault("law 4 #", 4, 2);
        fault("law 3 21#", 6, 2);
        fault("law # 21", 4, 1);
        // A number above the bound where none can stand: 1, not 2.
        fault(ONE + "thing 5 99;", 28, 1);
        fault(ONE + "99", 20, 1);
        fault("law 0 0 99;", 8, 1);
        fault("law 0 0;person 99;", 15, 1);
        // A person, or a thing, where none can stand: 1, not 3.
        fault("law 0 0;" + FOUR + "thing 1 1 1 1;person true;", 70, 1);
        fault("law 0 0;" + FOUR.substring(0, 47) + " person;", 56, 1);
        fault("law 0 0;" + FOUR + "thing 1 1 1 thing", 68, 1);
        String five = ONE + "thing 1;".repeat(5);
        fault(five.substring(0, five.length() - 1) + "thing 1;", 59, 1);
        fault(five + "person true;", 60, 1);
        // The word of the fifth person, the sixth thing, whatever comes behind it.
        fault("law 0 0;" + FOUR + "person", 56, 3);
        fault("law 0 0;" + FOUR + " \n person #", 59, 3);
        fault("law 0 0;" + FOUR + "personx", 56, 1);
        fault(five + "thing", 60, 3);
        fault(five + " \nthing 61;", 62, 3);
        fault(five + "things 1;", 60, 1);
    }

    /** "The number of the latest FAULT; 0 before one." */
    private static void theLatestFault() {
        LeastWants x = new LeastWants();
        C.due("fault() of a new object", x.fault(), 0);
        Checks.read(x, ONE);
        C.due("fault() behind a town", x.fault(), 0);
        String[] texts = {"law 4", "law", "law 0 0;" + FOUR + "person", "law 0 21", "#"};
        int[] want = {2, 1, 3, 2, 1};
        for (int i = 0; i < texts.length; i++) {
            Checks.read(x, texts[i]);
            C.due("fault() of " + texts[i], x.fault(), want[i]);
            x.image(0);
            x.restore(0);
            C.due("fault() stays behind restore()", x.fault(), want[i]);
            Checks.read(x, ONE);
            C.due("fault() stays behind a town", x.fault(), want[i]);
        }
    }

    // ---- acts

    /** "SEED 1 to 999999." */
    private static void seeds() {
        int[] told = {Integer.MIN_VALUE, -1, 0, 1, 2, 999998, 999999, 1000000, Integer.MAX_VALUE};
        for (int seed : told) {
            boolean is = seed >= 1 && seed <= 999999;
            LeastWants x = town(0, 0, "person true;thing 1;thing 2;");
            x.row(0, 0, 1);
            C.due("give(0, 0, " + seed + ")", x.give(0, 0, seed), is ? 0 : BAD);
            C.due("offer(1, " + seed + ")", x.offer(1, seed), is ? 0 : BAD);
        }
    }

    /** "each SAYS 0 to 5"; "as many ITEMS as there are PEOPLE, of a ROW from its beginning on". */
    private static void sayings() {
        for (int people = 1; people <= 4; people++) {
            String text = "law 0 0;" + "person true;".repeat(people) + "thing" + " 30".repeat(people) + ";";
            for (int at = 0; at < people; at++) {
                for (int says = -1; says <= 6; says++) {
                    LeastWants x = Checks.townOf(text);
                    boolean is = says >= 0 && says <= 5;
                    for (int lane = 0; lane <= 2; lane++) {
                        x.row(lane, lane, people);
                        for (int i = 0; i < people; i++) {
                            x.set(lane, i, 3);
                        }
                        x.set(lane, at, says);
                        C.due("ore of item " + at + ", " + says, x.ore(0, lane), !is ? BAD : says < 3 ? 1 << at : 0);
                    }
                    C.due("give of item " + at + ", " + says, x.give(0, 0, 5) == BAD ? 1 : 0, is ? 0 : 1);
                }
            }
            LeastWants x = Checks.townOf(text);
            for (int items = 0; items <= 5; items++) {
                x.row(7, 0, items);
                for (int i = people; i < items; i++) {
                    x.set(7, i, 99);
                }
                C.due("ore of " + items + " items", x.ore(0, 7), items < people ? PLACE : (1 << people) - 1);
            }
        }
    }

    /** "of those who SAY the least, in order, it comes to that whose place (0 on) is the rest of X by how many they are". */
    private static void theLot() {
        int[] seeds = {1, 5, 6, 127773, 127774, 255547, 500000, 999999};
        for (int seed : seeds) {
            long drawn = seed * 16807L % 2147483647L;
            for (int among = 1; among <= 15; among++) {
                LeastWants x = town(0, 0, FOUR + "thing 30 30 30 30;");
                int place = (int) (drawn % Integer.bitCount(among));
                int want = -1;
                x.row(0, 0, 4);
                for (int p = 0; p < 4; p++) {
                    boolean in = (among >> p & 1) == 1;
                    x.set(0, p, in ? 4 : 5);
                    if (in && place-- == 0) {
                        want = p;
                    }
                }
                C.due("give by seed " + seed + " among " + among, x.give(0, 0, seed), want);
            }
        }
        // 127773 times 16807 is below 2147483647 yet, 127774 times not.
        LeastWants x = town(0, 0, "person true;person true;thing 30 30;thing 30 30;");
        C.due("offer(0, 127773): 2147480811", x.offer(0, 127773), 1);
        C.due("offer(1, 127774): 13971", x.offer(1, 127774), 1);
    }

    /** "The NEXT saying is the least of all others' (0, if there are no others)." */
    private static void theNextSaying() {
        int[][] says = {{0, 5, 4, 5}, {2, 2, 5, 5}, {5, 5, 5, 5}, {3, 4, 5, 4}, {0, 0, 0, 0}};
        int[] next = {4, 2, 5, 4, 0};
        for (int i = 0; i < says.length; i++) {
            for (int pays = 1; pays <= 2; pays++) {
                LeastWants x = town(pays, 20, FOUR + "thing 30 30 30 30;");
                Checks.lay(x, 0, says[i]);
                int winner = x.give(0, 0, 1);
                C.due("coin by NEXT " + next[i], x.coin(winner), (pays == 1 ? -20 : 20) * next[i]);
            }
        }
        for (int pays = 0; pays <= 3; pays++) {
            LeastWants x = town(pays, 20, "person true;thing 60;");
            Checks.lay(x, 0, 5);
            C.due("gain of one alone", x.gain(0, 0, 0, 0), 30);
            C.due("give to one alone", x.give(0, 0, 1), 0);
            C.due("coin of one alone", x.coin(0), 0);
        }
    }

    /** "By PAYS 0 nothing is paid; 1: .. pays FEE times the NEXT; 2: he gets as much; 3: he gets FEE of each other one". */
    private static void whoPaysWhom() {
        for (int people = 2; people <= 4; people++) {
            for (int fee = 0; fee <= 20; fee += 10) {
                for (int pays = 0; pays <= 3; pays++) {
                    LeastWants x = town(pays, fee, "person true;".repeat(people) + "thing" + " 30".repeat(people) + ";");
                    Checks.lay(x, 0, 3, 1, 3, 3);
                    C.due("give(0, 0, 9)", x.give(0, 0, 9), 1);
                    int gets = pays == 0 ? 0 : pays == 1 ? -3 * fee : pays == 2 ? 3 * fee : (people - 1) * fee;
                    for (int p = 0; p < people; p++) {
                        C.due("coin(" + p + ") by " + pays, x.coin(p), p == 1 ? gets : pays == 3 ? -fee : 0);
                    }
                }
            }
        }
    }

    /** "30 and WORTH together, by 10 (cut), 0 to 5 (..); of a sly one 5 less that, of a shy one 1 less, 0 at least, ..". */
    private static void ownSayings() {
        LeastWants x = new LeastWants();
        for (int told = 0; told <= 60; told++) {
            if (told % 10 == 0) {
                x = new LeastWants();
            }
            int frank = Math.min(5, told / 10);
            Checks.read(x, "law 0 0;person true;person sly;person shy;person rich;thing" + (" " + told).repeat(4) + ";");
            C.due("a true one's by " + told, x.worth(0, 0, 1), frank);
            C.due("a sly one's by " + told, x.worth(0, 1, 1), 5 - frank);
            C.due("a shy one's by " + told, x.worth(0, 2, 1), Math.max(0, frank - 1));
            C.due("a rich one's by " + told, x.worth(0, 3, 1), Math.max(3, frank));
            Checks.read(x, "law 0 0;person widow;thing " + told + ";");
            C.due("a widow's by " + told, x.worth(0, 0, 1), 0);
        }
    }

    /** "WORTH ..: as told, less 2 for each time that it was WORN"; what is less than 0 is 0. */
    private static void wornThings() {
        LeastWants x = town(0, 0, "person true;person sly;person shy;person rich;thing 9 60 11 42;thing 30 0 0 0;");
        for (int worn = 0; worn <= 30; worn++) {
            int[] told = {9, 60, 11, 42};
            int[] want = new int[4];
            for (int p = 0; p < 4; p++) {
                int left = told[p] - 2 * worn;
                int frank = left < 0 ? 0 : Math.min(5, left / 10);
                want[p] = p == 0 ? frank : p == 1 ? 5 - frank : p == 2 ? Math.max(0, frank - 1) : Math.max(3, frank);
                C.due("worth(0, " + p + ", 0) worn " + worn, x.worth(0, p, 0), left - 30);
                C.due("worth(0, " + p + ", 1) worn " + worn, x.worth(0, p, 1), want[p]);
            }
            C.due("thing(0, 1)", x.thing(0, 1), worn);
            C.due("thing(1, 1)", x.thing(1, 1), 0);
            x.offer(0, 1);
            x.back(0);
        }
    }

    /** "A THING is returned: who had it"; "to whom it comes": each of four, for each of five things. */
    private static void whoeverHasIt() {
        LeastWants x = town(3, 5, FOUR + "thing 30 30 30 30;".repeat(5));
        for (int who = 0; who < 4; who++) {
            Checks.lay(x, 0, 1, 1, 1, 1);
            x.set(0, who, 0);
            for (int t = 0; t < 5; t++) {
                C.due("give(" + t + ", 0, 8)", x.give(t, 0, 8), who);
                C.due("thing(" + t + ", 0)", x.thing(t, 0), who);
                C.due("count(3)", x.count(3), t + 1);
            }
            for (int t = 4; t >= 0; t--) {
                int coin = x.coin(who);
                C.due("back(" + t + ")", x.back(t), who);
                C.due("thing(" + t + ", 0) of nobody", x.thing(t, 0), NONE);
                C.due("thing(" + t + ", 1)", x.thing(t, 1), who + 1);
                C.due("coin of who had it stays", x.coin(who), coin);
                C.due("count(3)", x.count(3), t);
            }
        }
    }

    /** "24 at most are kept, of more the oldest is forgotten; each can be undone, the latest first". */
    private static void twentyFourActs() {
        for (int acts = 23; acts <= 26; acts++) {
            LeastWants x = town(2, 1, "person true;person true;thing 30 30;");
            for (int i = 0; i < acts; i++) {
                C.due("act " + i, (i % 2 == 0 ? x.offer(0, 2) : x.back(0)) >= 0 ? 1 : 0, 1);
                C.due("count(4)", x.count(4), Math.min(24, i + 1));
            }
            int kept = Math.min(24, acts);
            for (int left = kept - 1; left >= 0; left--) {
                C.due("undo() of " + acts, x.undo(), left);
                int stand = acts - kept + left;
                C.due("thing(0, 1)", x.thing(0, 1), stand / 2);
                C.due("thing(0, 0)", x.thing(0, 0) == NONE ? 0 : 1, stand % 2);
            }
            C.due("undo() of none", x.undo(), STATE);
            C.due("count(4)", x.count(4), 0);
        }
    }

    /** Undoing and acting in turns, over the place where the oldest are forgotten. */
    private static void actsGoRound() {
        LeastWants x = town(3, 7, "person true;person true;person true;thing 30 30 30;thing 10 10 10;");
        int[] coins = new int[60];
        int acts = 0;
        for (int turn = 0; turn < 5; turn++) {
            for (int i = 0; i < 9; i++) {
                coins[acts++] = x.coin(0);
                int done = x.thing(0, 0) == NONE ? x.offer(0, 3 * acts + turn) : x.back(0);
                C.due("act " + acts, done >= 0 ? 1 : 0, 1);
            }
            for (int i = 0; i < 2; i++) {
                x.undo();
                acts--;
                C.due("coin(0) ahead of act " + acts, x.coin(0), coins[acts]);
            }
        }
        int kept = x.count(4);
        C.due("count(4)", kept, 22);
        for (int i = kept - 1; i >= 0; i--) {
            C.due("undo()", x.undo(), i);
            acts--;
            C.due("coin(0) ahead of act " + acts, x.coin(0), coins[acts]);
        }
        C.due("undo() of none", x.undo(), STATE);
    }

    // ---- foretold

    private static void fraction(String call, int above, int below, int wantAbove, int wantBelow) {
        C.due(call + ", above", above, wantAbove);
        C.due(call + ", below", below, wantBelow);
    }

    /** "fractions, told .. in lowest terms (the one below is above 0; 0 is 0 by 1)". */
    private static void fractions() {
        int[] told = {30, 31, 32, 33, 34, 36, 42, 29, 28, 27, 26, 18};
        for (int like = 1; like <= 4; like++) {
            LeastWants x = new LeastWants();
            for (int v : told) {
                Checks.read(x, "law 0 0;" + FOUR + "thing" + (" " + v).repeat(4) + ";");
                x.row(0, 0, 4);
                for (int p = like; p < 4; p++) {
                    x.set(0, p, 1);
                }
                int w = v - 30, g = 1;
                for (int d = 1; d <= like; d++) {
                    g = w % d == 0 && like % d == 0 ? d : g;
                }
                fraction("gain of " + w + " by " + like, x.gain(0, 0, 0, 0), x.gain(0, 0, 0, 1), w / g, like / g);
                fraction("lost of nothing by " + like, x.lost(0, 0, 0), x.lost(0, 0, 1), 0, 1);
                if (like < 4) {
                    fraction("gain above the others", x.gain(0, 0, 3, 0), x.gain(0, 0, 3, 1), 0, 1);
                }
            }
        }
        // Law 3, three alike of four: a third of 30 + 3 times 7, less two thirds of 7; he above loses 7.
        LeastWants x = town(3, 7, FOUR + "thing 60 28 9 60;");
        Checks.lay(x, 0, 2, 2, 2, 3);
        fraction("gain(0)", x.gain(0, 0, 0, 0), x.gain(0, 0, 0, 1), 37, 3);
        fraction("gain(1)", x.gain(0, 0, 1, 0), x.gain(0, 0, 1, 1), 5, 3);
        fraction("gain(2)", x.gain(0, 0, 2, 0), x.gain(0, 0, 2, 1), -14, 3);
        fraction("gain(3)", x.gain(0, 0, 3, 0), x.gain(0, 0, 3, 1), -7, 1);
    }

    private static void best(LeastWants x, int person, int want, int... says) {
        Checks.lay(x, 0, says);
        C.due("best(0, 0, " + person + ")", x.best(0, 0, person), want);
    }

    /** "by which saying his GAIN is most, ..; of several the least". */
    private static void bestOfSeveral() {
        LeastWants x = town(1, 2, "person true;person true;thing 40 40;");
        // Worth 10, and twice what the other says is to be paid: nothing is left of it if he says 5.
        best(x, 0, 0, 3, 5);
        best(x, 0, 0, 3, 4);
        best(x, 0, 0, 5, 0);
        x = town(1, 3, "person true;person true;thing 39 39;");
        best(x, 1, 0, 2, 5);
        best(x, 1, 0, 3, 5);
        best(x, 1, 5, 4, 1);
        x = town(0, 0, "person true;person true;thing 29 31;");
        for (int s = 0; s <= 5; s++) {
            best(x, 0, Math.min(5, s + 1), 0, s);
            best(x, 0, Math.min(5, s + 1), 5, s);
            best(x, 1, 0, s, 0);
            best(x, 1, 0, s, 5);
        }
        x = town(0, 0, "person true;thing 0;");
        for (int s = 0; s <= 5; s++) {
            best(x, 0, 0, s);
        }
        // By law 3 he gets 10 instead of paying 10: of worth -20 it is the same to him, of -21 he leaves it.
        x = town(3, 10, "person true;person true;thing 10 9;");
        best(x, 0, 0, 5, 3);
        best(x, 1, 4, 3, 5);
    }

    private static void rests(LeastWants x, int many, int... first) {
        C.due("rests(0, -1)", x.rests(0, -1), many);
        for (int p = 0; p < first.length; p++) {
            C.due("rests(0, " + p + ")", x.rests(0, p), first[p]);
        }
        C.due("rests of no more", x.rests(0, first.length), BAD);
        C.due("rests(0, -2)", x.rests(0, -2), BAD);
    }

    /** "rows of sayings by which nobody's GAIN were more by another one of his: how many; of these the first". */
    private static void rests() {
        int all = 1;
        for (int people = 1; people <= 4; people++) {
            all *= 6;
            String same = "person true;".repeat(people) + "thing" + " 30".repeat(people) + ";";
            rests(town(0, 0, same), all, new int[people]);
            // Who has it gets what the others pay: each goes to the bottom.
            rests(town(3, 1, same), people == 1 ? 6 : 1, new int[people]);
        }
        // Of four that do not want it all say 5.
        rests(town(0, 0, FOUR + "thing 29 29 29 29;"), 1, 5, 5, 5, 5);
        rests(town(0, 0, FOUR + "thing 31 31 31 31;"), 1, 0, 0, 0, 0);
        // One wants it: he says less than the three others, 0 to 4: 125, 64, 27, 8, 1 rows.
        rests(town(0, 0, FOUR + "thing 29 29 29 31;"), 225, 1, 1, 1, 0);
        rests(town(0, 0, FOUR + "thing 31 29 29 29;"), 225, 0, 1, 1, 1);
        rests(town(0, 0, FOUR + "thing 29 31 29 31;"), 25, 1, 0, 1, 0);
        // Worth -7 and 2, and twice what the other says is to be paid: 1 0, by which he pays what it is worth, or 5 5.
        rests(town(1, 2, "person true;person true;thing 23 32;"), 2, 1, 0);
        // Each wants it for nothing and none for 25: all say 0, or all say 5.
        rests(town(1, 5, "person true;person sly;person rich;thing 31 38 35;"), 2, 0, 0, 0);
    }

    private static void turned(LeastWants x, int many, int... then) {
        C.due("rounds(0, 0, -1)", x.rounds(0, 0, -1), many);
        for (int p = 0; p < then.length; p++) {
            C.due("rounds(0, 0, " + p + ")", x.rounds(0, 0, p), then[p]);
        }
        C.due("rounds of no more", x.rounds(0, 0, then.length), BAD);
    }

    /** "till in a round nobody SAYS another one ..: how many rounds (that one, too; 20 at most; NONE: more)". */
    private static void turns() {
        LeastWants x = town(0, 0, "person true;person true;thing 29 29;");
        int[][] says = {{5, 5}, {5, 4}, {4, 4}, {3, 4}, {2, 2}, {1, 2}, {0, 0}};
        int[] many = {1, 2, 2, 2, 3, 3, 4};
        for (int i = 0; i < says.length; i++) {
            Checks.lay(x, 0, says[i]);
            turned(x, many[i], 5, 5);
        }
        // For ever 1 2, 3 4, 5 0: behind the 20th round 3 4, or as many rounds further as it begins ahead.
        x = town(2, 2, "person true;person true;thing 0 20;");
        int[][] round = {{5, 0}, {1, 2}, {3, 4}};
        for (int i = 0; i < 3; i++) {
            Checks.lay(x, 0, round[i]);
            turned(x, NONE, round[(i + 20) % 3]);
        }
    }

    /** Rows that go round by 13, by 11, by 10 and by 7: what one says behind 20 is so behind no other number near. */
    private static void turnsThatGoRound() {
        goesRound(FOUR + "thing 22 22 22 22;", new int[][] {{4, 4, 4, 0}, {1, 1, 1, 2}, {2, 2, 3, 3}, {3, 4, 4, 4},
            {0, 1, 1, 1}, {2, 2, 2, 3}, {3, 3, 4, 4}, {4, 0, 1, 1}, {1, 2, 2, 2}, {3, 3, 3, 4}, {4, 4, 0, 1}, {1, 1, 2, 2},
            {2, 3, 3, 3}});
        goesRound("person true;person sly;person rich;thing 20 20 20;", new int[][] {{5, 5, 0}, {1, 1, 2}, {2, 3, 3},
            {4, 4, 5}, {5, 0, 1}, {1, 2, 2}, {3, 3, 4}, {4, 5, 5}, {0, 1, 1}, {2, 2, 3}, {3, 4, 4}});
        goesRound(FOUR + "thing 20 22 23 22;", new int[][] {{4, 4, 4, 0}, {1, 1, 1, 2}, {2, 2, 3, 3}, {3, 4, 4, 4},
            {5, 0, 1, 1}, {1, 2, 2, 2}, {3, 3, 3, 4}, {4, 4, 0, 1}, {1, 1, 2, 2}, {2, 3, 3, 3}});
        goesRound("person widow;person shy;person true;thing 24 25 24;", new int[][] {{3, 3, 0}, {1, 1, 2}, {2, 3, 3},
            {0, 1, 1}, {2, 2, 3}, {3, 0, 1}, {1, 2, 2}});
    }

    /** By law 2 with fee 2 each takes it if twice what the others say at least makes up for what it costs him. */
    private static void goesRound(String rest, int[][] round) {
        LeastWants x = town(2, 2, rest);
        for (int i = 0; i < round.length; i++) {
            Checks.lay(x, 0, round[i]);
            turned(x, NONE, round[(i + 20) % round.length]);
        }
    }

    /** Six rounds are the most by which turns end at all; four people, each of whom is told. */
    private static void turnsOfFour() {
        LeastWants x = town(1, 18, FOUR + "thing 45 6 0 28;");
        Checks.lay(x, 0, 2, 0, 4, 2);
        turned(x, 6, 5, 5, 5, 5);
        x = town(0, 0, FOUR + "thing 29 29 29 31;");
        Checks.lay(x, 0, 5, 5, 5, 5);
        turned(x, 3, 1, 1, 1, 0);
        Checks.lay(x, 0, 0, 0, 0, 0);
        turned(x, 2, 1, 1, 1, 0);
        Checks.lay(x, 0, 2, 4, 3, 0);
        turned(x, 2, 1, 1, 1, 0);
        Checks.lay(x, 0, 1, 1, 1, 0);
        turned(x, 1, 1, 1, 1, 0);
    }

    /** "to whom a THING is WORTH least, most, of several the first". */
    private static void leastAndMost() {
        for (int bits = 0; bits < 16; bits++) {
            StringBuilder text = new StringBuilder("law 0 0;" + FOUR + "thing");
            int least = -1, most = -1;
            for (int p = 0; p < 4; p++) {
                boolean high = (bits >> p & 1) == 1;
                text.append(high ? " 31" : " 30");
                least = least < 0 && !high ? p : least;
                most = most < 0 && high ? p : most;
            }
            LeastWants x = Checks.townOf(text.append(';').toString());
            C.due("least(0, 0) of " + text, x.least(0, 0), Math.max(0, least));
            C.due("least(0, 1) of " + text, x.least(0, 1), Math.max(0, most));
        }
    }

    private static void lost(LeastWants x, int above, int below, int... says) {
        Checks.lay(x, 0, says);
        fraction("lost(0, 0)", x.lost(0, 0, 0), x.lost(0, 0, 1), above, below);
    }

    /** "the greatest WORTH, less WORTH to whom it comes, in the mean of the lot". */
    private static void lostOfSeveral() {
        LeastWants x = town(3, 20, FOUR + "thing 10 7 9 5;");
        lost(x, 0, 1, 0, 1, 1, 1);
        lost(x, 5, 1, 5, 5, 5, 4);
        lost(x, 3, 2, 3, 3, 4, 4);
        lost(x, 1, 2, 3, 4, 3, 4);
        lost(x, 4, 3, 3, 3, 3, 4);
        lost(x, 3, 1, 4, 3, 3, 3);
        lost(x, 9, 4, 2, 2, 2, 2);
        x = town(0, 0, "person widow;thing 0;");
        lost(x, 0, 1, 5);
        x = town(0, 0, "person true;person true;thing 0 60;");
        lost(x, 60, 1, 0, 1);
        lost(x, 30, 1, 1, 1);
        lost(x, 0, 1, 1, 0);
    }

    /** "whether .. nobody's GAIN were more by another one of his; LAWS: PAYS 0 to 3 (bits), with FEE as it is". */
    private static void honestIfNobodyGains() {
        for (int fee = 0; fee <= 20; fee++) {
            // Own sayings 0 and 1, worth -10 and -20: the widow would say 2, but by law 2 if she gets 10 for it,
            // by law 3 if she gets 5 instead of paying 5; then he would say 0 to get more than 10 instead of paying it.
            for (int pays = 0; pays <= 3; pays++) {
                LeastWants x = town(pays, fee, "person widow;person true;thing 20 10;");
                int laws = (fee >= 10 ? 4 : 0) | (fee >= 5 && fee <= 10 ? 8 : 0);
                C.due("honest(0, 0) by " + pays + ", " + fee, x.honest(0, 0), laws >> pays & 1);
                C.due("honest(0, 1) by " + pays + ", " + fee, x.honest(0, 1), laws);
            }
        }
        // Own sayings 1 and 2, worth 10 and -10: by law 1 he pays twice the fee, 10 at most; by law 2 the other
        // would say 0 to get the fee for it, by law 3 to get it instead of paying it.
        for (int fee = 0; fee <= 20; fee++) {
            LeastWants x = town(0, fee, "person sly;person true;thing 40 20;");
            int laws = 1 | (2 * fee <= 10 ? 2 : 0) | (fee <= 10 ? 4 : 0) | (2 * fee <= 10 ? 8 : 0);
            C.due("honest(0, 1) by fee " + fee, x.honest(0, 1), laws);
            C.due("honest(0, 0) by fee " + fee, x.honest(0, 0), 1);
        }
    }

    /** "by told sayings PEOPLE (bits) who SAY less than their OWN". */
    private static void oreIsLess() {
        LeastWants x = town(0, 0, "person true;person sly;person shy;person rich;thing 30 30 30 0;");
        int[] own = {3, 2, 2, 3};
        for (int p = 0; p < 4; p++) {
            for (int s = 0; s <= 5; s++) {
                int[] says = own.clone();
                says[p] = s;
                Checks.lay(x, 0, says);
                C.due("ore of " + p + " by " + s, x.ore(0, 0), s < own[p] ? 1 << p : 0);
            }
        }
    }

    private static void foretold(LeastWants x, StringBuilder told) {
        for (int p = 0; p < 2; p++) {
            told.append(x.gain(0, 0, p, 0)).append(' ').append(x.gain(0, 0, p, 1)).append(' ');
            told.append(x.best(0, 0, p)).append(' ').append(x.rounds(0, 0, p)).append(' ');
            told.append(x.rests(0, p)).append(' ').append(x.least(0, p)).append(' ');
            told.append(x.lost(0, 0, p)).append(' ').append(x.honest(0, p)).append(' ');
        }
        told.append(x.rests(0, -1)).append(' ').append(x.rounds(0, 0, -1)).append(' ').append(x.ore(0, 0));
    }

    /** "nothing changes; whether somebody has the THING or not". */
    private static void heldThingsAreForetold() {
        for (int pays = 0; pays <= 3; pays++) {
            LeastWants x = town(pays, 4, "person true;person rich;thing 22 41;thing 1 1;");
            Checks.lay(x, 0, 2, 4);
            StringBuilder free = new StringBuilder(), again = new StringBuilder(), held = new StringBuilder();
            foretold(x, free);
            foretold(x, again);
            C.due("what is foretold changes nothing", free.toString().contentEquals(again) ? 1 : 0, 1);
            C.due("count(3)", x.count(3), 0);
            C.due("count(4)", x.count(4), 0);
            C.due("coin(0)", x.coin(0), 0);
            x.give(0, 0, 1);
            int coin = x.coin(0);
            foretold(x, held);
            C.due("of a held thing " + held + " of a free one " + free, free.toString().contentEquals(held) ? 1 : 0, 1);
            C.due("thing(0, 0) stays", x.thing(0, 0), 0);
            C.due("coin(0) stays", x.coin(0), coin);
            C.due("count(4) stays", x.count(4), 1);
        }
    }

    // ---- images, asks

    /** "An IMAGE (0, 1) is kept"; "as an IMAGE kept it (no ACT can be undone then)". */
    private static void images() {
        LeastWants x = town(1, 3, "person true;person true;thing 40 20;");
        for (int k = -1; k <= 2; k++) {
            boolean is = k >= 0 && k <= 1;
            C.due("restore(" + k + ") of none", x.restore(k), is ? STATE : BAD);
            C.due("image(" + k + ")", x.image(k), is ? 1 : BAD);
            C.due("restore(" + k + ")", x.restore(k), is ? 1 : BAD);
        }
        x.offer(0, 1);
        C.due("image(1) with an act", x.image(1), 1);
        C.due("count(4): an image leaves the acts", x.count(4), 1);
        x.back(0);
        C.due("restore(1)", x.restore(1), 1);
        C.due("count(4): none then", x.count(4), 0);
        C.due("undo()", x.undo(), STATE);
        C.due("thing(0, 0)", x.thing(0, 0), 1);
        C.due("thing(0, 1)", x.thing(0, 1), 0);
        C.due("back(0)", x.back(0), 1);
        C.due("undo() of what came behind", x.undo(), 0);
        C.due("thing(0, 0)", x.thing(0, 0), 1);
        C.due("restore(0)", x.restore(0), 1);
        C.due("thing(0, 0) of the other", x.thing(0, 0), NONE);
        C.due("coin(1) of the other", x.coin(1), 0);
        Checks.read(x, "law 3 9;person shy;");
        C.due("image(0) of another town", x.image(0), 1);
        C.due("restore(1)", x.restore(1), 1);
        C.due("count(2)", x.count(2), 1);
        C.due("coin(1)", x.coin(1), -12);
        C.due("restore(0)", x.restore(0), 1);
        C.due("count(2)", x.count(2), 0);
        C.due("count(1)", x.count(1), 1);
        C.due("count(6)", x.count(6), 9);
        C.due("kind(0)", x.kind(0), 3);
        Checks.feed(x, "law 4");
        C.due("restore(1) beside a tape", x.restore(1), 1);
        C.due("count(7): the tape stays", x.count(7), 5);
        x.row(4, 0, 4);
        x.restore(0);
        C.due("count(0): rows stay", x.count(0), 1);
        C.due("drop(4)", x.drop(4), 4);
    }

    /** "0 PERSON; 1 TRUE, a PERSON; 2 SLY, a TRUE one; 3 SHY, a TRUE one; 4 RICH, a PERSON; 5 WIDOW, a RICH one." */
    private static void kinds() {
        String[] sorts = {"true", "sly", "shy", "rich", "widow"};
        String[] is = {"01", "012", "013", "04", "045"};
        for (int s = 0; s < 5; s++) {
            for (int p = 0; p < 4; p++) {
                LeastWants x = town(0, 0, "person true;".repeat(p) + "person " + sorts[s] + ";");
                C.due("kind(" + p + ")", x.kind(p), s + 1);
                C.due("kind(" + (p + 1) + ")", x.kind(p + 1), BAD);
                for (int k = -1; k <= 6; k++) {
                    int want = k < 0 || k > 5 ? BAD : is[s].indexOf('0' + k) >= 0 ? p : -1000013;
                    C.due("as(" + p + ", " + k + ") of a " + sorts[s] + " one", x.as(p, k), want);
                    C.due("as(" + (p + 1) + ", " + k + ")", x.as(p + 1, k), BAD);
                }
            }
        }
    }

    /** One has all five THINGS, and coin above, or below, 0; each BODY by the numbers that it gives. */
    private static void asks() {
        String[] sorts = {"true", "sly", "shy", "rich", "widow"};
        int[] sizes = {56, -62, -944, -50, -100};
        int[] marks = {6, 12, -994, 51, 101};
        int[] byFour = {5, 10, -995, 51, 101};
        int[] below = {-45, 40, -1045, -150, -300};
        for (int s = 0; s < 5; s++) {
            LeastWants x = town(2, 2, "person true;person " + sorts[s] + ";" + "thing 1 1;".repeat(5));
            Checks.lay(x, 0, 5, 0);
            for (int t = 0; t < 5; t++) {
                x.give(t, 0, 1);
            }
            C.due("coin(1)", x.coin(1), 50);
            C.due("count(3)", x.count(3), 5);
            C.due("SIZE of a " + sorts[s] + " one", x.ask(1, 0), sizes[s]);
            C.due("MARK of a " + sorts[s] + " one", x.ask(1, 1), marks[s]);
            C.due("MARK of one who has none", x.ask(0, 1), 0);
            C.due("SIZE of one who has none", x.ask(0, 0), 0);
            x.back(4);
            C.due("MARK by four things of a " + sorts[s] + " one", x.ask(1, 1), byFour[s]);
            x = town(1, 2, "person " + sorts[s] + ";person true;" + "thing 1 1;".repeat(5));
            Checks.lay(x, 0, 0, 5);
            for (int t = 0; t < 5; t++) {
                x.give(t, 0, 1);
            }
            C.due("coin(0)", x.coin(0), -50);
            C.due("SIZE by less than nothing of a " + sorts[s] + " one", x.ask(0, 0), below[s]);
        }
    }

    /** "0 ROWS, 1 PEOPLE, 2 THINGS, 3 THINGS that somebody has, 4 ACTS .., 5 PAYS, 6 FEE (..), 7 bytes on the tape." */
    private static void counts() {
        LeastWants x = town(3, 20, FOUR + "thing 1 1 1 1;".repeat(5));
        for (int row = 0; row < 8; row++) {
            x.row(row, 0, 0);
        }
        for (int i = 0; i < 30; i++) {
            x.offer(i % 5, 1);
            x.back(i % 5);
        }
        for (int t = 0; t < 5; t++) {
            C.due("count(3)", x.count(3), t);
            x.offer(t, 1);
        }
        Checks.feed(x, " ".repeat(400));
        int[] most = {8, 4, 5, 5, 24, 3, 20, 400};
        for (int what = -1; what <= 8; what++) {
            C.due("count(" + what + ")", x.count(what), what < 0 || what > 7 ? BAD : most[what]);
        }
    }
}
