/** What the tests share: counting wrong answers, feeding texts, laying rows. */
final class Checks {
    private int made = 0;
    private int wrong = 0;
    private final String name;

    Checks(String name) {
        this.name = name;
    }

    void due(String call, long got, long want) {
        made++;
        if (got != want) {
            wrong++;
            System.out.println(name + ": " + call + " answered " + got + ", due is " + want);
        }
    }

    /** Ends the program, with 1 if an answer was wrong or none was looked at. */
    void end() {
        System.out.println(name + ": " + made + " answers, " + wrong + " wrong");
        System.exit(wrong == 0 && made > 0 ? 0 : 1);
    }

    static void feed(LeastWants x, String text) {
        for (int i = 0; i < text.length(); i += 8) {
            int n = Math.min(8, text.length() - i);
            x.feed(packed(text.substring(i, i + n)), n);
        }
    }

    static long packed(String text) {
        long w = 0;
        for (int i = 0; i < text.length(); i++) {
            w = w << 8 | text.charAt(i) & 255;
        }
        return w;
    }

    static int read(LeastWants x, String text) {
        feed(x, text);
        return x.town();
    }

    static LeastWants townOf(String text) {
        LeastWants x = new LeastWants();
        read(x, text);
        return x;
    }

    static void lay(LeastWants x, int row, int... items) {
        x.row(row, 2, items.length);
        for (int i = 0; i < items.length; i++) {
            x.set(row, i, items[i]);
        }
    }
}
