/** Promises 9 to 15, 24 and 25: rounds, returns, undoing, coin, worth, images. */
public final class ActsTest {
    private static final Checks C = new Checks("ActsTest");
    private static final String THREE = "person true;person true;person true;thing 40 20 30;thing 30 30 30;";

    public static void main(String[] args) {
        givesByEachLaw();
        drawsTheLot();
        givesAmongFour();
        givesToOneAlone();
        refusesToGive();
        offersByOwnSayings();
        refusesToOffer();
        takesBack();
        undoes();
        keepsTwentyFourActs();
        tellsWorth();
        tellsOwnSayings();
        refusesToTell();
        keepsImages();
        keepsAllOfATown();
        refusesImages();
        C.end();
    }

    private static LeastWants under(int pays, int fee) {
        LeastWants x = Checks.townOf("law " + pays + " " + fee + ";" + THREE);
        Checks.lay(x, 0, 4, 1, 3);
        return x;
    }

    private static void coins(String when, LeastWants x, int... want) {
        for (int i = 0; i < want.length; i++) {
            C.due("coin(" + i + ") " + when, x.coin(i), want[i]);
        }
    }

    private static void givesByEachLaw() {
        for (int pays = 0; pays <= 3; pays++) {
            LeastWants x = under(pays, 7);
            C.due("give(0, 0, 1) by law " + pays, x.give(0, 0, 1), 1);
            C.due("thing(0, 0)", x.thing(0, 0), 1);
            C.due("thing(1, 0)", x.thing(1, 0), LeastWants.NONE);
            C.due("count(3)", x.count(3), 1);
            C.due("count(4)", x.count(4), 1);
            int[][] want = {{0, 0, 0}, {0, -21, 0}, {0, 21, 0}, {-7, 14, -7}};
            coins("by law " + pays, x, want[pays]);
        }
        LeastWants x = under(1, 7);
        Checks.lay(x, 0, 2, 2, 5);
        C.due("give(0, 0, 2) of two alike", x.give(0, 0, 2), 0);
        coins("with a NEXT that is the same", x, -14, 0, 0);
        Checks.lay(x, 0, 0, 0, 0, 9, -1);
        C.due("give(1, 0, 2): items behind are not heard", x.give(1, 0, 2), 2);
        coins("with a NEXT of 0", x, -14, 0, 0);
    }

    /** Rests of X for these seeds: 16807, 33614, 50421, 1213916353, 1774597664. */
    private static void drawsTheLot() {
        int[] seeds = {1, 2, 3, 200000, 999999};
        int[] ofThree = {1, 2, 0, 1, 2};
        int[] ofTwo = {2, 0, 2, 2, 0};
        for (int i = 0; i < seeds.length; i++) {
            LeastWants x = under(0, 0);
            Checks.lay(x, 0, 3, 3, 3);
            Checks.lay(x, 1, 0, 4, 0);
            C.due("give(0, 0, " + seeds[i] + ") of three", x.give(0, 0, seeds[i]), ofThree[i]);
            C.due("give(1, 1, " + seeds[i] + ") of two", x.give(1, 1, seeds[i]), ofTwo[i]);
        }
    }

    private static void givesAmongFour() {
        LeastWants x = Checks.townOf("law 3 20;person true;person sly;person shy;person rich;thing 0 0 0 0;thing 0 0 0 0;");
        Checks.lay(x, 0, 5, 5, 5, 5);
        C.due("give(0, 0, 1)", x.give(0, 0, 1), 3);
        coins("of four", x, -20, -20, -20, 60);
        C.due("give(1, 0, 2)", x.give(1, 0, 2), 2);
        coins("of four, twice", x, -40, -40, 40, 40);
    }

    private static void givesToOneAlone() {
        for (int pays = 0; pays <= 3; pays++) {
            LeastWants x = Checks.townOf("law " + pays + " 9;person true;thing 30;");
            Checks.lay(x, 0, 5);
            C.due("give(0, 0, 77) to one alone", x.give(0, 0, 77), 0);
            coins("with no others", x, 0);
        }
    }

    private static void refusesToGive() {
        LeastWants x = under(1, 1);
        x.row(1, 0, 2);
        Checks.lay(x, 3, 0, 6, 0);
        Checks.lay(x, 4, 0, 0, -1);
        C.due("give(2, 0, 1)", x.give(2, 0, 1), LeastWants.BAD);
        C.due("give(-1, 0, 1)", x.give(-1, 0, 1), LeastWants.BAD);
        C.due("give(0, 8, 1)", x.give(0, 8, 1), LeastWants.BAD);
        C.due("give(0, -1, 1)", x.give(0, -1, 1), LeastWants.BAD);
        C.due("give(0, 0, 0)", x.give(0, 0, 0), LeastWants.BAD);
        C.due("give(0, 0, 1000000)", x.give(0, 0, 1000000), LeastWants.BAD);
        C.due("give(0, 2, 1)", x.give(0, 2, 1), -1000011);
        C.due("give(0, 1, 1)", x.give(0, 1, 1), -1000012);
        x.row(1, 0, 1);
        x.set(1, 0, 9);
        C.due("give(0, 1, 1): PLACE ahead of an ITEM", x.give(0, 1, 1), -1000012);
        C.due("give(0, 3, 1)", x.give(0, 3, 1), LeastWants.BAD);
        C.due("give(0, 4, 1)", x.give(0, 4, 1), LeastWants.BAD);
        C.due("count(4): nothing was done", x.count(4), 0);
        C.due("give(0, 0, 999999)", x.give(0, 0, 999999), 1);
        C.due("give(0, 0, 1) again", x.give(0, 0, 1), LeastWants.STATE);
        C.due("give(0, 2, 1): STATE ahead of NULL", x.give(0, 2, 1), LeastWants.STATE);
        C.due("give(0, 4, 1): STATE ahead of an ITEM", x.give(0, 4, 1), LeastWants.STATE);
        C.due("give(0, 0, 0): BAD ahead of STATE", x.give(0, 0, 0), LeastWants.BAD);
        coins("paid once", x, 0, -3, 0);
    }

    /** By worth 10, -10, 0 they say 4, 2, 3; by worth 0 each says 3. */
    private static void offersByOwnSayings() {
        LeastWants x = under(2, 5);
        C.due("offer(0, 1)", x.offer(0, 1), 1);
        coins("of 5 times 3", x, 0, 15, 0);
        C.due("offer(1, 2)", x.offer(1, 2), 2);
        coins("of 5 times 3 more", x, 0, 15, 15);
        C.due("thing(1, 0)", x.thing(1, 0), 2);
        x = Checks.townOf("law 1 1;person widow;person sly;person shy;person rich;thing 60 60 60 0;");
        C.due("offer(0, 3): 0, 0, 4, 3", x.offer(0, 3), 1);
        coins("of nothing", x, 0, 0, 0, 0);
    }

    private static void refusesToOffer() {
        LeastWants x = under(1, 1);
        C.due("offer(2, 1)", x.offer(2, 1), LeastWants.BAD);
        C.due("offer(-1, 1)", x.offer(-1, 1), LeastWants.BAD);
        C.due("offer(0, 0)", x.offer(0, 0), LeastWants.BAD);
        C.due("offer(0, 1000000)", x.offer(0, 1000000), LeastWants.BAD);
        C.due("offer(0, 1)", x.offer(0, 1), 1);
        C.due("offer(0, 1) again", x.offer(0, 1), LeastWants.STATE);
        C.due("offer(0, -1): BAD ahead of STATE", x.offer(0, -1), LeastWants.BAD);
    }

    private static void takesBack() {
        LeastWants x = under(1, 2);
        C.due("back(0) of nobody's", x.back(0), LeastWants.STATE);
        C.due("back(2)", x.back(2), LeastWants.BAD);
        C.due("back(-1)", x.back(-1), LeastWants.BAD);
        x.offer(0, 1);
        C.due("back(0)", x.back(0), 1);
        C.due("back(0) again", x.back(0), LeastWants.STATE);
        C.due("thing(0, 0)", x.thing(0, 0), LeastWants.NONE);
        C.due("thing(0, 1)", x.thing(0, 1), 1);
        C.due("thing(1, 1)", x.thing(1, 1), 0);
        C.due("worth(0, 0, 0)", x.worth(0, 0, 0), 8);
        C.due("count(4)", x.count(4), 2);
        coins("stays", x, 0, -6, 0);
        C.due("offer(0, 1) anew: 3, 1, 2", x.offer(0, 1), 1);
        coins("of 2 times 2 more", x, 0, -10, 0);
    }

    private static void undoes() {
        LeastWants x = under(3, 4);
        C.due("undo() of nothing", x.undo(), LeastWants.STATE);
        x.give(0, 0, 1);
        x.back(0);
        x.offer(1, 3);
        coins("ahead of undoing", x, 4, 4, -8);
        C.due("undo() of a round", x.undo(), 2);
        coins("of one round", x, -4, 8, -4);
        C.due("thing(1, 0)", x.thing(1, 0), LeastWants.NONE);
        C.due("undo() of a return", x.undo(), 1);
        C.due("thing(0, 0)", x.thing(0, 0), 1);
        C.due("thing(0, 1)", x.thing(0, 1), 0);
        coins("stays", x, -4, 8, -4);
        C.due("undo() of the first round", x.undo(), 0);
        coins("of none", x, 0, 0, 0);
        C.due("count(3)", x.count(3), 0);
        C.due("undo() of no more", x.undo(), LeastWants.STATE);
        C.due("offer(0, 1) as at first", x.offer(0, 1), 1);
        C.due("undo() again", x.undo(), 0);
    }

    private static void keepsTwentyFourActs() {
        LeastWants x = under(1, 1);
        for (int i = 0; i < 13; i++) {
            x.offer(0, 1);
            C.due("count(4) in turn " + i, x.count(4), Math.min(24, 2 * i + 1));
            x.back(0);
        }
        C.due("count(4)", x.count(4), 24);
        C.due("thing(0, 1)", x.thing(0, 1), 13);
        for (int i = 23; i >= 0; i--) {
            C.due("undo()", x.undo(), i);
        }
        C.due("undo() of what is forgotten", x.undo(), LeastWants.STATE);
        C.due("thing(0, 1) of two acts", x.thing(0, 1), 1);
        C.due("thing(0, 0) of two acts", x.thing(0, 0), LeastWants.NONE);
        coins("of one round of thirteen", x, 0, -3, 0);
        C.due("offer(0, 1)", x.offer(0, 1), 1);
        C.due("count(4) anew", x.count(4), 1);
    }

    private static void tellsWorth() {
        LeastWants x = Checks.townOf("law 0 0;person true;person true;thing 0 60;thing 31 29;");
        C.due("worth(0, 0, 0)", x.worth(0, 0, 0), -30);
        C.due("worth(0, 1, 0)", x.worth(0, 1, 0), 30);
        C.due("worth(1, 0, 0)", x.worth(1, 0, 0), 1);
        C.due("worth(1, 1, 0)", x.worth(1, 1, 0), -1);
        for (int i = 0; i < 3; i++) {
            x.offer(0, 1);
            x.back(0);
        }
        C.due("worth(0, 0, 0) worn thrice", x.worth(0, 0, 0), -36);
        C.due("worth(0, 1, 0) worn thrice", x.worth(0, 1, 0), 24);
        C.due("worth(0, 0, 1) below none", x.worth(0, 0, 1), 0);
        C.due("worth(0, 1, 1) of 54", x.worth(0, 1, 1), 5);
        C.due("worth(1, 0, 0) of another thing", x.worth(1, 0, 0), 1);
    }

    /** Told 0, 9, 10, 29, 30, 49, 50, 60: frankly 0, 0, 1, 2, 3, 4, 5, 5. */
    private static void tellsOwnSayings() {
        String[] sorts = {"true", "sly", "shy", "rich", "widow"};
        int[] told = {0, 9, 10, 29, 30, 49, 50, 60};
        int[][] want = {{0, 0, 1, 2, 3, 4, 5, 5}, {5, 5, 4, 3, 2, 1, 0, 0}, {0, 0, 0, 1, 2, 3, 4, 4},
            {3, 3, 3, 3, 3, 4, 5, 5}, {0, 0, 0, 0, 0, 0, 0, 0}};
        for (int s = 0; s < sorts.length; s++) {
            for (int i = 0; i < told.length; i++) {
                LeastWants x = Checks.townOf("law 1 1;person " + sorts[s] + ";thing " + told[i] + ";");
                C.due("own saying of a " + sorts[s] + " one by " + told[i], x.worth(0, 0, 1), want[s][i]);
            }
        }
    }

    private static void refusesToTell() {
        LeastWants x = under(1, 1);
        C.due("coin(3)", x.coin(3), LeastWants.BAD);
        C.due("coin(-1)", x.coin(-1), LeastWants.BAD);
        C.due("thing(2, 0)", x.thing(2, 0), LeastWants.BAD);
        C.due("thing(-1, 0)", x.thing(-1, 0), LeastWants.BAD);
        C.due("thing(0, 2)", x.thing(0, 2), LeastWants.BAD);
        C.due("thing(0, -1)", x.thing(0, -1), LeastWants.BAD);
        C.due("worth(2, 0, 0)", x.worth(2, 0, 0), LeastWants.BAD);
        C.due("worth(-1, 0, 0)", x.worth(-1, 0, 0), LeastWants.BAD);
        C.due("worth(0, 3, 0)", x.worth(0, 3, 0), LeastWants.BAD);
        C.due("worth(0, -1, 1)", x.worth(0, -1, 1), LeastWants.BAD);
        C.due("worth(0, 0, 2)", x.worth(0, 0, 2), LeastWants.BAD);
        C.due("worth(0, 0, -1)", x.worth(0, 0, -1), LeastWants.BAD);
    }

    private static void keepsImages() {
        LeastWants x = under(1, 2);
        x.offer(0, 1);
        x.back(0);
        x.offer(0, 1);
        C.due("image(0)", x.image(0), 1);
        C.due("count(4): an image takes no act away", x.count(4), 3);
        x.back(0);
        x.offer(1, 1);
        C.due("image(1)", x.image(1), 1);
        Checks.read(x, "law 3 9;person shy;thing 1;thing 2;thing 3;");
        x.offer(2, 1);
        C.due("restore(0)", x.restore(0), 1);
        C.due("count(1)", x.count(1), 3);
        C.due("count(2)", x.count(2), 2);
        C.due("count(3)", x.count(3), 1);
        C.due("count(4)", x.count(4), 0);
        C.due("undo()", x.undo(), LeastWants.STATE);
        C.due("count(5)", x.count(5), 1);
        C.due("count(6)", x.count(6), 2);
        C.due("kind(0)", x.kind(0), 1);
        C.due("thing(0, 0)", x.thing(0, 0), 1);
        C.due("thing(0, 1)", x.thing(0, 1), 1);
        C.due("worth(0, 0, 0)", x.worth(0, 0, 0), 8);
        coins("of the image", x, 0, -10, 0);
        x.back(0);
        C.due("restore(0) again: what came behind it did not change it", x.restore(0), 1);
        C.due("thing(0, 0) again", x.thing(0, 0), 1);
        C.due("restore(1)", x.restore(1), 1);
        C.due("thing(0, 0) of the other", x.thing(0, 0), LeastWants.NONE);
        C.due("thing(1, 0) of the other", x.thing(1, 0), 1);
        C.due("image(0) in place of the one before", x.image(0), 1);
        x.back(1);
        C.due("restore(0) of the newer", x.restore(0), 1);
        C.due("thing(1, 0) of the newer", x.thing(1, 0), 1);
    }

    private static void keepsAllOfATown() {
        LeastWants x = Checks.townOf("law 3 1;person true;person sly;person shy;person widow;"
            + "thing 1 2 3 4;thing 5 6 7 8;thing 9 10 11 12;thing 13 14 15 16;thing 17 18 19 20;");
        x.offer(4, 1);
        x.back(4);
        x.offer(4, 1);
        x.image(0);
        Checks.read(x, "law 0 0;person true;thing 60;");
        x.restore(0);
        for (int p = 0; p < 4; p++) {
            C.due("kind(" + p + ")", x.kind(p), new int[] {1, 2, 3, 5}[p]);
            C.due("coin(" + p + ")", x.coin(p), p == 3 ? 6 : -2);
            for (int t = 0; t < 5; t++) {
                C.due("worth(" + t + ", " + p + ", 0)", x.worth(t, p, 0), 4 * t + p - 29 - (t == 4 ? 2 : 0));
            }
        }
        C.due("thing(4, 0)", x.thing(4, 0), 3);
        C.due("thing(4, 1)", x.thing(4, 1), 1);
        C.due("count(3)", x.count(3), 1);
    }

    private static void refusesImages() {
        LeastWants x = new LeastWants();
        C.due("image(0) without a town", x.image(0), LeastWants.STATE);
        C.due("image(-1)", x.image(-1), LeastWants.BAD);
        C.due("image(2)", x.image(2), LeastWants.BAD);
        C.due("restore(0) of none", x.restore(0), LeastWants.STATE);
        C.due("restore(-1)", x.restore(-1), LeastWants.BAD);
        C.due("restore(2)", x.restore(2), LeastWants.BAD);
        Checks.read(x, "law 1 1;person true;thing 30;");
        C.due("restore(0) of none, in a town", x.restore(0), LeastWants.STATE);
        C.due("image(1)", x.image(1), 1);
        C.due("restore(0) of the other", x.restore(0), LeastWants.STATE);
        x.offer(0, 1);
        x.restore(0);
        C.due("count(4): a refused restore changes nothing", x.count(4), 1);
        C.due("restore(1)", x.restore(1), 1);
    }
}
