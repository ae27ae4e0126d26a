/** What the tests share: answers against those that are due, and texts typed whole. */
final class Checks {
    /** Numbers far out, and those that a shift by a tick would fold back onto small ones. */
    static final int[] FAR_OUT = {
        Integer.MIN_VALUE, Integer.MIN_VALUE + 1, -1000000, -256, -64, -33, -32, -31, 31, 32, 33,
        64, 256, 1000000, Integer.MAX_VALUE - 1, Integer.MAX_VALUE};

    // A fault of the class can make millions of answers wrong; the first ones tell it.
    private static final int MOST_TOLD = 200;

    private int made = 0;
    private int wrong = 0;

    void due(String call, int got, int want) {
        made++;
        if (got != want) {
            tellWrong(call + " answered " + got + ", due is " + want);
        }
    }

    void asDue() {
        made++;
    }

    void isTrue(String what, boolean so) {
        made++;
        if (!so) {
            tellWrong("not so: " + what);
        }
    }

    void same(String what, String got, String want) {
        made++;
        if (!got.equals(want)) {
            tellWrong(what + " is " + got + ", due is " + want);
        }
    }

    private void tellWrong(String what) {
        wrong++;
        if (wrong <= MOST_TOLD) {
            System.out.println(what);
        }
    }

    static SharedLine typed(SharedLine x, String text) {
        for (int i = 0; i < text.length(); i++) {
            x.type(text.charAt(i));
        }
        return x;
    }

    /** A new object that has been told a text. */
    SharedLine told(String text) {
        SharedLine x = typed(new SharedLine(), text);
        isTrue("text told: " + text, x.tells() > 0);
        return x;
    }

    /** That a text is told whole, by a new object. */
    void tells(String text, int items, String line) {
        SharedLine x = typed(new SharedLine(), text);
        due("tells() of '" + text + "'", x.tells(), items);
        same("the line of '" + text + "'", lineOf(x), line);
        due("letters behind '" + text + "'", x.count(6), 0);
    }

    /** That a text is not told by a new object, and where its FAULT is. */
    void fault(String text, int place) {
        SharedLine x = typed(new SharedLine(), text);
        due("tells() of '" + text + "'", x.tells(), -10 - place);
        same("the line of '" + text + "'", lineOf(x), "0/-9 wait 2 reach 2 bar 4");
        due("letters of '" + text + "'", x.count(6), text.length());
    }

    /** HANDS of THE SHARE as bits, tick 0 the lowest; rests 0. */
    static int hands(SharedLine x) {
        int bits = 0;
        int ticks = x.count(0);
        for (int t = 0; t < ticks; t++) {
            bits |= Math.max(0, x.tick(t, 1)) << t;
        }
        return bits;
    }

    /** All that part 1 of the document tells, but THE TEXT. */
    static String lineOf(SharedLine x) {
        StringBuilder all = new StringBuilder();
        int ticks = x.count(0);
        for (int t = 0; t < ticks; t++) {
            all.append(x.tick(t, 0)).append('/').append(x.tick(t, 1)).append(' ');
        }
        return all + "wait " + x.count(2) + " reach " + x.count(3) + " bar " + x.count(4);
    }

    /**
     * All that an object holds, drawn out of it: it is used up by this. What can be UNDONE comes
     * ahead of THE TEXT, since telling it would push the oldest one out.
     */
    static String drainedOf(SharedLine x) {
        StringBuilder all = new StringBuilder(lineOf(x));
        all.append("\n seen ").append(x.count(5)).append(", letters ").append(x.count(6));
        all.append(", which ").append(x.which(0)).append(' ').append(x.which(1));
        for (int more = x.count(7); more > 0; more--) {
            all.append("\n undone ").append(x.undo()).append(": ").append(lineOf(x));
        }
        all.append("\n undone at last ").append(x.undo());
        all.append("\n told ").append(x.tells()).append(": ").append(lineOf(x));
        for (int image = 0; image < 2; image++) {
            all.append("\n image ").append(x.back(image)).append(": ").append(lineOf(x));
        }
        return all.toString();
    }

    void end() {
        System.out.println(made + " answers, " + wrong + " wrong");
        if (wrong != 0) {
            System.exit(1);
        }
    }
}
