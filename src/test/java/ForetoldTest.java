/** Promises 16 to 23: gains, best sayings, rests, turns, least, lost, honest, ore. */
public final class ForetoldTest {
    private static final Checks C = new Checks("ForetoldTest");
    private static final int BAD = LeastWants.BAD, NULL = -1000011, PLACE = -1000012;
    private static final String THREE = "person true;person true;person true;thing 40 20 30;";

    public static void main(String[] args) {
        tellsGains();
        tellsGainsInLowestTerms();
        tellsBestSayings();
        countsRests();
        takesTurns();
        turnsForTooLong();
        tellsLeastAndMost();
        tellsWhatIsLost();
        tellsHonestLaws();
        tellsWhoKnows();
        foretellsOfHeldAndWorn();
        refuses();
        refusesInOrder();
        changesNothing();
        C.end();
    }

    private static LeastWants under(int pays, int fee, int... says) {
        LeastWants x = Checks.townOf("law " + pays + " " + fee + ";" + THREE);
        Checks.lay(x, 0, says);
        return x;
    }

    private static void gain(LeastWants x, int person, int above, int below) {
        C.due("gain(0, 0, " + person + ", 0)", x.gain(0, 0, person, 0), above);
        C.due("gain(0, 0, " + person + ", 1)", x.gain(0, 0, person, 1), below);
    }

    /** Worth 10, -10, 0 to the three. */
    private static void tellsGains() {
        LeastWants x = under(0, 5, 2, 3, 4);
        gain(x, 0, 10, 1);
        gain(x, 1, 0, 1);
        x = under(0, 5, 3, 3, 3);
        gain(x, 0, 10, 3);
        gain(x, 1, -10, 3);
        gain(x, 2, 0, 1);
        x = under(1, 5, 1, 1, 2);
        gain(x, 0, 5, 2);
        gain(x, 1, -15, 2);
        gain(x, 2, 0, 1);
        x = under(1, 20, 5, 4, 5);
        gain(x, 1, -110, 1);
        x = under(2, 3, 2, 4, 4);
        gain(x, 0, 22, 1);
        gain(x, 1, 0, 1);
        x = under(3, 5, 1, 1, 2);
        gain(x, 0, 15, 2);
        gain(x, 1, -5, 2);
        gain(x, 2, -5, 1);
        x = under(3, 5, 0, 0, 0);
        gain(x, 0, 10, 3);
        gain(x, 1, -10, 3);
        gain(x, 2, 0, 1);
        x = Checks.townOf("law 1 20;person rich;thing 33;");
        Checks.lay(x, 0, 5);
        gain(x, 0, 3, 1);
    }

    private static void tellsGainsInLowestTerms() {
        LeastWants x = Checks.townOf("law 0 9;person sly;person sly;person sly;person sly;thing 32 34 24 30;");
        Checks.lay(x, 0, 2, 2, 2, 2);
        gain(x, 0, 1, 2);
        gain(x, 1, 1, 1);
        gain(x, 2, -3, 2);
        gain(x, 3, 0, 1);
        Checks.lay(x, 0, 2, 3, 2, 2);
        gain(x, 0, 2, 3);
        gain(x, 2, -2, 1);
    }

    private static void best(String why, LeastWants x, int person, int want) {
        C.due("best(0, 0, " + person + ") " + why, x.best(0, 0, person), want);
    }

    private static void tellsBestSayings() {
        best("of one who wants it", under(0, 0, 5, 3, 4), 0, 0);
        best("of one who wants it, shared at least", under(0, 0, 5, 0, 4), 0, 0);
        best("of one who does not", under(0, 0, 5, 0, 3), 1, 4);
        best("of one who does not, at the top", under(0, 0, 5, 0, 5), 1, 5);
        best("of one to whom it is nothing", under(0, 0, 2, 2, 5), 2, 0);
        best("of one who pays too much", under(1, 4, 0, 3, 3), 0, 4);
        best("of one who pays as much as it is worth", under(1, 5, 4, 2, 3), 0, 0);
        best("of one who gets more than it costs", under(2, 4, 3, 3, 3), 1, 0);
        best("of one who gets less than it costs", under(2, 4, 2, 3, 3), 1, 3);
        best("of one who pays others, or has it", under(3, 3, 1, 1, 1), 1, 2);
        best("of one who pays others more", under(3, 4, 1, 1, 1), 1, 0);
        LeastWants x = Checks.townOf("law 3 20;person true;thing 0;");
        Checks.lay(x, 0, 4);
        best("of one alone", x, 0, 0);
    }

    private static void rests(String text, int many, int... first) {
        LeastWants x = Checks.townOf(text);
        C.due("rests(0, -1) of " + text, x.rests(0, -1), many);
        C.due("rests(0, -1) again of " + text, x.rests(0, -1), many);
        for (int i = 0; i < first.length; i++) {
            C.due("rests(0, " + i + ") of " + text, x.rests(0, i), first[i]);
        }
    }

    private static void countsRests() {
        rests("law 0 0;person true;thing 0;", 6, 0);
        // Nobody wants it: whoever says less goes above the other, up to the top.
        rests("law 0 0;person sly;person rich;thing 20 20;", 1, 5, 5);
        // Both want it: each goes to the bottom.
        rests("law 0 0;person true;person true;thing 40 40;", 1, 0, 0);
        // It is nothing to anybody: all rows.
        rests("law 0 0;person true;person true;person shy;thing 30 30 30;", 216, 0, 0, 0);
        rests("law 1 0;person true;person true;person shy;person widow;thing 30 30 30 30;", 1296, 0, 0, 0, 0);
        // The one wants it and the other does not: the one below the other.
        rests("law 0 0;person true;person true;thing 40 20;", 15, 0, 1);
        rests("law 0 0;person true;person true;thing 20 40;", 15, 1, 0);
    }

    private static void turns(LeastWants x, int many, int... says) {
        C.due("rounds(0, 0, -1)", x.rounds(0, 0, -1), many);
        for (int i = 0; i < says.length; i++) {
            C.due("rounds(0, 0, " + i + ")", x.rounds(0, 0, i), says[i]);
        }
    }

    private static void takesTurns() {
        LeastWants x = Checks.townOf("law 0 0;person sly;person rich;thing 20 20;");
        // 0 0, 1 2, 3 4, 5 5, 5 5
        Checks.lay(x, 0, 0, 0);
        turns(x, 4, 5, 5);
        Checks.lay(x, 0, 5, 5);
        turns(x, 1, 5, 5);
        Checks.lay(x, 0, 5, 4);
        turns(x, 2, 5, 5);
        turns(under(0, 0, 0, 1, 0), 1, 0, 1, 0);
        // 0 4 2: then 0 1 0, then the same
        turns(under(0, 0, 0, 4, 2), 2, 0, 1, 0);
    }

    /** Worth -30, -10; who has it gets twice what the other says: 1 2, 3 4, 5 0, 1 2, and so on. */
    private static void turnsForTooLong() {
        LeastWants x = Checks.townOf("law 2 2;person true;person true;thing 0 20;");
        Checks.lay(x, 0, 0, 0);
        turns(x, LeastWants.NONE, 3, 4);
        C.due("status() behind NONE", x.status(), 0);
        Checks.lay(x, 0, 5, 5);
        turns(x, LeastWants.NONE, 1, 2);
        Checks.lay(x, 0, 3, 4);
        turns(x, LeastWants.NONE, 1, 2);
    }

    private static void tellsLeastAndMost() {
        LeastWants x = Checks.townOf("law 0 0;person true;person true;person true;person widow;"
            + "thing 5 60 0 59;thing 9 9 9 9;thing 9 3 3 9;thing 0 1 60 60;");
        int[] least = {2, 0, 1, 0}, most = {1, 0, 0, 2};
        for (int t = 0; t < 4; t++) {
            C.due("least(" + t + ", 0)", x.least(t, 0), least[t]);
            C.due("least(" + t + ", 1)", x.least(t, 1), most[t]);
        }
    }

    private static void lost(LeastWants x, int above, int below) {
        C.due("lost(0, 0, 0)", x.lost(0, 0, 0), above);
        C.due("lost(0, 0, 1)", x.lost(0, 0, 1), below);
    }

    /** Worth 10, -10, 0: against the greatest 0, 20, 10 are lost. */
    private static void tellsWhatIsLost() {
        lost(under(1, 9, 0, 1, 1), 0, 1);
        lost(under(1, 9, 1, 0, 1), 20, 1);
        lost(under(3, 9, 1, 1, 0), 10, 1);
        lost(under(2, 9, 1, 0, 0), 15, 1);
        lost(under(0, 9, 5, 5, 5), 10, 1);
        lost(under(0, 9, 3, 5, 3), 5, 1);
        LeastWants x = Checks.townOf("law 0 0;person true;person true;person true;person true;thing 7 6 5 3;");
        Checks.lay(x, 0, 1, 1, 1, 1);
        lost(x, 7, 4);
        Checks.lay(x, 0, 2, 1, 1, 1);
        lost(x, 7, 3);
        Checks.lay(x, 0, 2, 1, 2, 1);
        lost(x, 5, 2);
        Checks.lay(x, 0, 2, 1, 1, 2);
        lost(x, 3, 2);
        x = Checks.townOf("law 0 0;person true;person true;thing 5 40;");
        Checks.lay(x, 0, 1, 1);
        lost(x, 35, 2);
        Checks.lay(x, 0, 1, 2);
        lost(x, 35, 1);
    }

    private static void honest(String text, int now, int laws) {
        LeastWants x = Checks.townOf(text);
        C.due("honest(0, 0) of " + text, x.honest(0, 0), now);
        C.due("honest(0, 1) of " + text, x.honest(0, 1), laws);
    }

    private static void tellsHonestLaws() {
        honest("law 3 7;person true;thing 11;", 1, 15);
        // Worth 10, -10, own sayings 4, 2: the second goes above, or the first goes below.
        honest("law 0 5;person true;person true;thing 40 20;", 0, 0);
        // Worth -30, -10, own sayings 0, 2: by law 2 the first gets 30, as much as it costs him.
        honest("law 2 15;person true;person true;thing 0 20;", 1, 4);
        honest("law 2 14;person true;person true;thing 0 20;", 0, 0);
        // Worth 10, -10, own sayings 1 (of a sly one), 2: by law 1 the first pays twice the fee.
        honest("law 3 5;person sly;person true;thing 40 20;", 1, 15);
        honest("law 1 6;person sly;person true;thing 40 20;", 0, 5);
        honest("law 2 11;person sly;person true;thing 40 20;", 0, 1);
        // It is nothing to either, and there is no fee: all laws.
        honest("law 1 0;person true;person rich;thing 30 30;", 1, 15);
        // Both say 3, and it is worth nothing: with a fee laws 1 to 3 make another saying better.
        honest("law 0 2;person true;person rich;thing 30 30;", 1, 1);
        honest("law 1 2;person true;person rich;thing 30 30;", 0, 1);
    }

    private static void tellsWhoKnows() {
        LeastWants x = Checks.townOf("law 1 1;person true;person sly;person shy;person rich;thing 40 40 40 0;");
        // Own sayings 4, 1, 3, 3.
        Checks.lay(x, 0, 4, 1, 3, 3);
        C.due("ore(0, 0) of their own", x.ore(0, 0), 0);
        Checks.lay(x, 0, 3, 0, 2, 2);
        C.due("ore(0, 0) of one less", x.ore(0, 0), 15);
        Checks.lay(x, 0, 5, 0, 5, 0);
        C.due("ore(0, 0) of two", x.ore(0, 0), 10);
        Checks.lay(x, 0, 0, 5, 2, 5);
        C.due("ore(0, 0) of two others", x.ore(0, 0), 5);
    }

    private static void foretellsOfHeldAndWorn() {
        LeastWants x = under(0, 0, 1, 2, 3);
        x.offer(0, 1);
        gain(x, 0, 10, 1);
        C.due("best of a held thing", x.best(0, 0, 0), 0);
        C.due("least of a held thing", x.least(0, 0), 1);
        x.back(0);
        gain(x, 0, 8, 1);
        x.offer(0, 1);
        x.back(0);
        gain(x, 0, 6, 1);
        // Own sayings were 4, 2, 3 and are 3, 1, 2 now.
        C.due("ore of a worn thing", x.ore(0, 0), 1);
        lost(x, 0, 1);
    }

    private static void refuses() {
        LeastWants x = under(1, 1, 1, 2, 3);
        int[] noThings = {-1, 1, Integer.MAX_VALUE, Integer.MIN_VALUE};
        for (int t : noThings) {
            C.due("gain of thing " + t, x.gain(t, 0, 0, 0), BAD);
            C.due("best of thing " + t, x.best(t, 0, 0), BAD);
            C.due("rests of thing " + t, x.rests(t, -1), BAD);
            C.due("rounds of thing " + t, x.rounds(t, 0, 0), BAD);
            C.due("least of thing " + t, x.least(t, 0), BAD);
            C.due("lost of thing " + t, x.lost(t, 0, 0), BAD);
            C.due("honest of thing " + t, x.honest(t, 0), BAD);
            C.due("ore of thing " + t, x.ore(t, 0), BAD);
        }
        int[] noOnes = {-1, 3, Integer.MAX_VALUE, -2};
        for (int p : noOnes) {
            C.due("gain of " + p, x.gain(0, 0, p, 0), BAD);
            C.due("best of " + p, x.best(0, 0, p), BAD);
            C.due("rests of " + p, p == -1 ? BAD : x.rests(0, p), BAD);
            C.due("rounds of " + p, p == -1 ? BAD : x.rounds(0, 0, p), BAD);
        }
        int[] neithers = {-1, 2};
        for (int what : neithers) {
            C.due("gain " + what, x.gain(0, 0, 0, what), BAD);
            C.due("least " + what, x.least(0, what), BAD);
            C.due("lost " + what, x.lost(0, 0, what), BAD);
            C.due("honest " + what, x.honest(0, what), BAD);
        }
    }

    private static void each(String why, LeastWants x, int row, int want) {
        C.due("gain " + why, x.gain(0, row, 0, 0), want);
        C.due("best " + why, x.best(0, row, 0), want);
        C.due("rounds " + why, x.rounds(0, row, 0), want);
        C.due("rounds in all " + why, x.rounds(0, row, -1), want);
        C.due("lost " + why, x.lost(0, row, 1), want);
        C.due("ore " + why, x.ore(0, row), want);
    }

    private static void refusesInOrder() {
        LeastWants x = under(1, 1, 1, 2, 3);
        x.row(1, 0, 2);
        Checks.lay(x, 2, 9, 9);
        Checks.lay(x, 3, 5, 5, 6);
        Checks.lay(x, 4, -1, 0, 0, 0);
        each("of row -1", x, -1, BAD);
        each("of row 8", x, 8, BAD);
        each("of a missing row", x, 5, NULL);
        each("of a short row", x, 1, PLACE);
        each("of a short row with wrong items", x, 2, PLACE);
        each("of an item 6", x, 3, BAD);
        each("of an item -1", x, 4, BAD);
        C.due("gain: BAD ahead of NULL", x.gain(0, 5, 3, 0), BAD);
        C.due("gain: BAD ahead of NULL", x.gain(0, 5, 0, 2), BAD);
        C.due("best: BAD ahead of PLACE", x.best(0, 1, 3), BAD);
        C.due("rounds: BAD ahead of PLACE", x.rounds(0, 1, 3), BAD);
        C.due("lost: BAD ahead of NULL", x.lost(0, 5, 2), BAD);
        C.due("ore: BAD ahead of NULL", x.ore(1, 5), BAD);
        C.due("best for one whose own item is no saying", x.best(0, 3, 2), BAD);
        Checks.lay(x, 3, 5, 5, 4, 6);
        C.due("best: items behind the people are not heard", x.best(0, 3, 2), 5);
    }

    private static void changesNothing() {
        LeastWants x = under(3, 6, 5, 0, 2);
        x.gain(0, 0, 0, 0);
        x.best(0, 0, 0);
        x.rests(0, -1);
        x.rounds(0, 0, -1);
        x.lost(0, 0, 0);
        x.honest(0, 1);
        x.ore(0, 0);
        C.due("count(3)", x.count(3), 0);
        C.due("count(4)", x.count(4), 0);
        C.due("coin(0)", x.coin(0), 0);
        C.due("give(0, 0, 1): the row stays", x.give(0, 0, 1), 1);
    }
}
