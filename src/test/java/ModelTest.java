import java.util.Arrays;

/** Long runs of calls, drawn by a fixed row of numbers, answered by the class and by the model. */
public final class ModelTest {
    private static final int OBJECTS = 300, CALLS = 512;
    private static final Checks C = new Checks("ModelTest");

    private LeastWants x = new LeastWants();
    private Model m = new Model();
    private long drawn;
    private StringBuilder run;
    private boolean agrees = true;
    private int made;

    private ModelTest(long seed) {
        drawn = seed * 7919 + 12345;
        run = new StringBuilder();
    }

    public static void main(String[] args) {
        int[] kinds = new int[CHOICES];
        for (int i = 0; i < OBJECTS; i++) {
            ModelTest t = new ModelTest(i);
            t.goOn(kinds);
            C.due("run " + i + " agrees" + (t.agrees ? "" : ":" + t.run), t.agrees ? 1 : 0, 1);
        }
        C.due("every call was made", Arrays.stream(kinds).min().getAsInt() > 100 ? 1 : 0, 1);
        C.end();
    }

    private int draw(int below) {
        drawn = (drawn * 6364136223846793005L + 1442695040888963407L);
        return (int) ((drawn >>> 33) % below);
    }

    /** Mostly one of 0 to below - 1, at times one at or beyond an edge. */
    private int near(int below) {
        int d = draw(40);
        if (d == 0) return -1;
        if (d == 1) return below;
        if (d == 2) return draw(3) == 0 ? Integer.MAX_VALUE : Integer.MIN_VALUE;
        return draw(Math.max(1, below));
    }

    private void same(String call, int got, int want) {
        made++;
        if (!agrees) return;
        run.append(' ').append(call).append('=').append(got);
        if (got != want) {
            agrees = false;
            run.append(" but ").append(want);
        }
    }

    private void feed(String text) {
        for (int i = 0; i < text.length() && made < CALLS; i += 8) {
            int n = Math.min(8, text.length() - i);
            long w = Checks.packed(text.substring(i, i + n));
            same("feed(" + w + "," + n + ")", x.feed(w, n), m.feed(w, n));
        }
    }

    private String blank() {
        return draw(12) == 0 ? "\n " : draw(8) == 0 ? "  " : "";
    }

    private String townText() {
        StringBuilder s = new StringBuilder(blank());
        s.append("law").append(blank()).append(' ').append(draw(4)).append(' ');
        s.append(draw(3) == 0 ? draw(6) : draw(21)).append(blank()).append(';');
        int people = 1 + draw(4), things = draw(6), small = draw(3);
        for (int i = 0; i < people; i++) {
            s.append(blank()).append("person ").append(Model.SORTS[1 + draw(5)]).append(blank()).append(';');
        }
        for (int i = 0; i < things; i++) {
            s.append("thing");
            for (int p = 0; p < people; p++) {
                int v = small == 0 ? 28 + draw(5) : small == 1 ? 5 * draw(13) : draw(61);
                s.append(' ').append(blank()).append(v);
            }
            s.append(';').append(blank());
        }
        return s.toString();
    }

    /** One small thing in a text becomes wrong. */
    private String broken(String text) {
        String[] bits = {";", " ", "law", "person ", "thing ", "7", "61", "21", "4", "1000", "0", "#", "A", "true", "x",
            "person shy;", "thing 1;", "\t", "" + (char) 200, ""};
        int at = draw(text.length() + 1);
        int cut = draw(3) == 0 ? Math.min(text.length(), at + draw(7)) : at;
        if (draw(6) == 0) return text.substring(0, at);
        return text.substring(0, at) + bits[draw(bits.length)] + text.substring(cut);
    }

    private void readTown() {
        String text = townText();
        if (draw(4) == 0) text = broken(text);
        if (draw(30) == 0) {
            text = text + " ".repeat(draw(420 - Math.min(400, text.length())) + 1);
        }
        feed(text);
        same("town()", x.town(), m.town());
        same("fault()", x.fault(), m.fault);
    }

    private int says() {
        int d = draw(30);
        return d == 0 ? 6 : d == 1 ? -1 : draw(6);
    }

    private void laySayings() {
        int r = draw(2), n = draw(8) == 0 ? draw(5) : 4;
        int lane = draw(3);
        same("row(" + r + "," + lane + "," + n + ")", x.row(r, lane, n), m.row(r, lane, n));
        for (int i = 0; i < n; i++) {
            int v = says();
            same("set(" + r + "," + i + "," + v + ")", x.set(r, i, v), m.set(r, i, v));
        }
    }

    private int lane() { return near(3); }
    private int aThing() { return near(m.now.told.length); }
    private int aPerson() { return near(m.now.kinds.length); }
    private int aSayingRow() { return draw(10) == 0 ? near(8) : draw(2); }
    private int aSeed() {
        int d = draw(20);
        return d == 0 ? 999999 + draw(2) : d == 1 ? draw(2) : 1 + draw(999999);
    }

    private static final int CHOICES = 31;

    private void goOn(int[] kinds) {
        readTown();
        while (made < CALLS - 60) {
            int d = draw(200);
            int which = d < 6 ? 5 : d < 30 ? 30 : draw(30);
            if (which == 17 && draw(8) != 0) which = 28;
            kinds[which]++;
            step(which);
        }
    }

    private void step(int which) {
        if (which < 8) rowsAndTowns(which);
        else if (which < 15) acts(which);
        else if (which < 23) foretell(which);
        else askAndCount(which);
    }

    private void rowsAndTowns(int which) {
        int a = draw(3) == 0 ? near(8) : near(3), i = draw(5) == 0 ? near(40) : draw(5);
        switch (which) {
            case 0: {
                int lane = lane(), n = near(41);
                same("row(" + a + "," + lane + "," + n + ")", x.row(a, lane, n), m.row(a, lane, n));
                break;
            }
            case 1: {
                int v = draw(3) == 0 ? draw(70000) - 35000 : (int) drawn;
                same("set(" + a + "," + i + "," + v + ")", x.set(a, i, v), m.set(a, i, v));
                break;
            }
            case 2: case 3: {
                int b = draw(3) == 0 ? near(8) : near(3), j = draw(5) == 0 ? near(40) : draw(5), n = near(6);
                same("copy(" + a + "," + i + "," + b + "," + j + "," + n + ")", x.copy(a, i, b, j, n), m.copy(a, i, b, j, n));
                break;
            }
            case 4: same("drop(" + a + ")", x.drop(a), m.drop(a)); break;
            case 5: readTown(); break;
            case 6: {
                int k = near(2);
                same("image(" + k + ")", x.image(k), m.image(k));
                break;
            }
            default: {
                if (draw(2) == 0) {
                    int k = near(2);
                    same("restore(" + k + ")", x.restore(k), m.restore(k));
                } else {
                    int n = near(10);
                    long w = drawn;
                    same("feed(" + w + "," + n + ")", x.feed(w, n), m.feed(w, n));
                    same("town()", x.town(), m.town());
                    same("fault()", x.fault(), m.fault);
                }
            }
        }
    }

    private void acts(int which) {
        int t = aThing(), s = aSeed(), r = aSayingRow();
        switch (which) {
            case 8: case 9: same("give(" + t + "," + r + "," + s + ")", x.give(t, r, s), m.give(t, r, s)); break;
            case 10: case 11: same("offer(" + t + "," + s + ")", x.offer(t, s), m.offer(t, s)); break;
            case 12: case 13: same("back(" + t + ")", x.back(t), m.back(t)); break;
            default: same("undo()", x.undo(), m.undo());
        }
    }

    private void foretell(int which) {
        int t = aThing(), r = aSayingRow(), p = aPerson(), w = near(2);
        switch (which) {
            case 15: same("gain(" + t + "," + r + "," + p + "," + w + ")", x.gain(t, r, p, w), m.gain(t, r, p, w)); break;
            case 16: same("best(" + t + "," + r + "," + p + ")", x.best(t, r, p), m.best(t, r, p)); break;
            case 17: {
                int k = draw(3) == 0 ? -1 : p;
                same("rests(" + t + "," + k + ")", x.rests(t, k), m.rests(t, k));
                break;
            }
            case 18: {
                int k = draw(3) == 0 ? -1 : p;
                same("rounds(" + t + "," + r + "," + k + ")", x.rounds(t, r, k), m.rounds(t, r, k));
                break;
            }
            case 19: same("least(" + t + "," + w + ")", x.least(t, w), m.least(t, w)); break;
            case 20: same("lost(" + t + "," + r + "," + w + ")", x.lost(t, r, w), m.lost(t, r, w)); break;
            case 21: same("honest(" + t + "," + w + ")", x.honest(t, w), m.honest(t, w)); break;
            default: same("ore(" + t + "," + r + ")", x.ore(t, r), m.ore(t, r));
        }
    }

    private void askAndCount(int which) {
        int p = aPerson(), w = near(2), t = aThing(), k = near(6), c = near(8), i = near(6);
        switch (which) {
            case 23: same("coin(" + p + ")", x.coin(p), m.coin(p)); break;
            case 24: same("thing(" + t + "," + w + ")", x.thing(t, w), m.thing(t, w)); break;
            case 25: same("worth(" + t + "," + p + "," + w + ")", x.worth(t, p, w), m.worth(t, p, w)); break;
            case 26: same("kind(" + p + ")", x.kind(p), m.kind(p)); break;
            case 27: same("as(" + p + "," + k + ")", x.as(p, k), m.as(p, k)); break;
            case 28: {
                same("ask(" + p + "," + w + ")", x.ask(p, w), m.ask(p, w));
                same("trace(" + i + ")", x.trace(i), m.trace(i));
                break;
            }
            case 29: same("count(" + c + ")", x.count(c), m.count(c)); break;
            default: laySayings();
        }
        same("status()", x.status(), m.status());
    }
}
