/** What the tests share: answers against those that are due, and texts typed whole. */
final class Checks {
    private int made = 0;
    private int wrong = 0;

    void due(String call, int got, int want) {
        made++;
        if (got != want) {
            wrong++;
            System.out.println(call + " answered " + got + ", due is " + want);
        }
    }

    void isTrue(String what, boolean so) {
        made++;
        if (!so) {
            wrong++;
            System.out.println("not so: " + what);
        }
    }

    static SharedLine typed(SharedLine x, String text) {
        for (int i = 0; i < text.length(); i++) {
            x.type(text.charAt(i));
        }
        return x;
    }

    /** A new object that has been told a text. */
    SharedLine told(String text) {
        SharedLine x = typed(new SharedLine(), text);
        isTrue("text told: " + text, x.tells() > 0);
        return x;
    }

    /** HANDS of THE SHARE as bits, tick 0 the lowest; rests 0. */
    static int hands(SharedLine x) {
        int bits = 0;
        for (int t = 0; t < x.count(0); t++) {
            bits |= Math.max(0, x.tick(t, 1)) << t;
        }
        return bits;
    }

    /** All that part 1 of the document tells, but THE TEXT. */
    static String lineOf(SharedLine x) {
        StringBuilder all = new StringBuilder();
        for (int t = 0; t < x.count(0); t++) {
            all.append(x.tick(t, 0)).append('/').append(x.tick(t, 1)).append(' ');
        }
        return all + "wait " + x.count(2) + " reach " + x.count(3) + " bar " + x.count(4);
    }

    void end() {
        System.out.println(made + " answers, " + wrong + " wrong");
        if (wrong != 0) {
            System.exit(1);
        }
    }
}
