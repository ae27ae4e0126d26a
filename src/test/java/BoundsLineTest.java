/**
 * The bounds of what part 1 tells but THE TEXT: T, PITCHES, WAIT, REACH, BAR, HANDS. Each method
 * holds one sentence of the document, which stands above it.
 */
public final class BoundsLineTest {
    private static final Checks CHECKS = new Checks();
    private static final int BAD = SharedLine.BAD, NONE = SharedLine.NONE;
    private static final String[] WORDS = {"wait", "reach", "bar"};
    private static final int[] LEAST = {1, 0, 2};
    private static final int[] MOST = {5, 6, 6};
    private static final int[] AT_FIRST = {2, 2, 4};

    public static void main(String[] args) {
        ticksFrom1To12();
        ticksTooFewAndTooMany();
        oneTickAtFirst();
        restAtFirst();
        pitchesFrom1To7();
        pitchesAtEveryTick();
        numbersByText();
        numbersBySets();
        numbersAtFirst();
        handsByText();
        handsByGives();
        handsAtFirst();
        CHECKS.end();
    }

    // "THE LINE has T ticks (1 to 12 ..."
    private static void ticksFrom1To12() {
        for (int ticks = 1; ticks <= 12; ticks++) {
            SharedLine x = CHECKS.told("line " + "3".repeat(ticks) + ";");
            CHECKS.due("T", x.count(0), ticks);
            CHECKS.due("NOTES", x.count(1), ticks);
            CHECKS.due("the first tick of " + ticks, x.tick(0, 0), 3);
            CHECKS.due("the last tick of " + ticks, x.tick(ticks - 1, 0), 3);
            CHECKS.due("the tick behind " + ticks, x.tick(ticks, 0), BAD);
            CHECKS.due("the tick ahead of 0", x.tick(-1, 0), BAD);
        }
    }

    // "... (1 to 12 ..."
    private static void ticksTooFewAndTooMany() {
        CHECKS.fault("line;", 4);
        CHECKS.fault("line ;", 5);
        CHECKS.fault("line " + "1".repeat(13) + ";", 5);
        CHECKS.fault("line " + "0".repeat(13) + ";", 5);
        CHECKS.fault("line " + "1".repeat(114) + ";", 5);
    }

    // "... 1 at first)"
    private static void oneTickAtFirst() {
        SharedLine x = new SharedLine();
        CHECKS.due("T at first", x.count(0), 1);
        CHECKS.due("tick(0, 0) at first", x.tick(0, 0), 0);
        CHECKS.due("tick(1, 0) at first", x.tick(1, 0), BAD);
    }

    // "... or a rest 0 (at first)", "SharedLine(): A rest alone."
    private static void restAtFirst() {
        SharedLine x = new SharedLine();
        CHECKS.due("NOTES at first", x.count(1), 0);
        CHECKS.due("HAND at first", x.tick(0, 1), NONE);
        CHECKS.due("TOO SOON at first", x.tick(0, 2), 0);
        CHECKS.due("TOO FAR at first", x.tick(0, 3), 0);
        CHECKS.due("SEEN at first", x.count(5), 0);
        CHECKS.due("letters at first", x.count(6), 0);
        CHECKS.due("UNDONE at first", x.count(7), 0);
    }

    // "each a NOTE of a PITCH 1 to 7, or a rest 0"
    private static void pitchesFrom1To7() {
        CHECKS.tells("line 0;", 1, "0/-9 wait 2 reach 2 bar 4");
        for (int pitch = 1; pitch <= 7; pitch++) {
            CHECKS.tells("line " + pitch + ";", 1, pitch + "/0 wait 2 reach 2 bar 4");
        }
        CHECKS.fault("line 8;", 5);
        CHECKS.fault("line 9;", 5);
    }

    private static void pitchesAtEveryTick() {
        for (int t = 0; t < 12; t++) {
            StringBuilder line = new StringBuilder("777777777777");
            line.setCharAt(t, '0');
            SharedLine x = CHECKS.told("line " + line + ";");
            CHECKS.due("NOTES", x.count(1), 11);
            CHECKS.due("the rest at " + t, x.tick(t, 0), 0);
            CHECKS.due("no HAND at " + t, x.tick(t, 1), NONE);
            line.setCharAt(t, '8');
            CHECKS.fault("line " + line + ";", 5);
        }
    }

    // "WAIT (1 to 5 ...). REACH (0 to 6 ...). BAR (2 to 6 ...)", as "wait N, reach N, bar N"
    private static void numbersByText() {
        for (int what = 0; what < 3; what++) {
            for (int n = 0; n <= 9; n++) {
                String text = "line 1;" + WORDS[what] + " " + n + ";";
                if (n < LEAST[what] || n > MOST[what]) {
                    CHECKS.fault(text, text.length() - 2);
                } else {
                    CHECKS.due(text, CHECKS.told(text).count(2 + what), n);
                }
            }
        }
    }

    // "WAIT (what = 0), REACH (1), BAR (2) is n: what it was. BAD"
    private static void numbersBySets() {
        for (int what = 0; what < 3; what++) {
            String call = "sets(" + what + ", ";
            for (int n = -3; n <= 12; n++) {
                SharedLine x = new SharedLine();
                int due = n < LEAST[what] || n > MOST[what] ? BAD
                        : n == AT_FIRST[what] ? SharedLine.STATE : AT_FIRST[what];
                CHECKS.due(call + n + ")", x.sets(what, n), due);
                CHECKS.due("behind " + call + n + ")", x.count(2 + what),
                        due == BAD ? AT_FIRST[what] : n);
            }
            for (int n : Checks.FAR_OUT) {
                CHECKS.due(call + n + ")", new SharedLine().sets(what, n), BAD);
            }
        }
    }

    // "... 2 at first", "... 2 at first", "... 4 at first"; "What it does not tell is as at first"
    private static void numbersAtFirst() {
        for (int what = 0; what < 3; what++) {
            CHECKS.due("a new object's " + WORDS[what],
                    new SharedLine().count(2 + what), AT_FIRST[what]);
            SharedLine x = new SharedLine();
            x.sets(what, MOST[what]);
            Checks.typed(x, "line 1;").tells();
            CHECKS.due(WORDS[what] + " that is not told", x.count(2 + what), AT_FIRST[what]);
        }
    }

    // "Each NOTE is of a HAND, 0 or 1", as "hands F (figures 0, 1 ...)"
    private static void handsByText() {
        CHECKS.tells("line 1;hands 0;", 2, "1/0 wait 2 reach 2 bar 4");
        CHECKS.tells("line 1;hands 1;", 2, "1/1 wait 2 reach 2 bar 4");
        for (int figure = 2; figure <= 9; figure++) {
            CHECKS.fault("line 1;hands " + figure + ";", 13);
            CHECKS.fault("line 0;hands " + figure + ";", 13);
            CHECKS.fault("line 111;hands 01" + figure + ";", 15);
        }
    }

    // "(... HAND 0, 1)"
    private static void handsByGives() {
        SharedLine x = CHECKS.told("line 1;");
        CHECKS.due("gives(0, 1)", x.gives(0, 1), 1);
        CHECKS.due("gives(0, 2)", x.gives(0, 2), BAD);
        CHECKS.due("gives(0, -1)", x.gives(0, -1), BAD);
        CHECKS.due("HAND", x.tick(0, 1), 1);
        CHECKS.due("gives(0, 0)", x.gives(0, 0), 1);
        CHECKS.due("HAND", x.tick(0, 1), 0);
        for (int hand : Checks.FAR_OUT) {
            CHECKS.due("gives(0, " + hand + ")", x.gives(0, hand), BAD);
        }
    }

    // "(0 at first)", "(HANDS as told, else 0)"
    private static void handsAtFirst() {
        SharedLine x = CHECKS.told("line 111;hands 111;");
        CHECKS.due("HANDS as told", Checks.hands(x), 7);
        Checks.typed(x, "line 222;").tells();
        CHECKS.due("else 0", Checks.hands(x), 0);
        CHECKS.due("of twelve too", CHECKS.told("line 111111111111;").share(3), 12);
    }
}
