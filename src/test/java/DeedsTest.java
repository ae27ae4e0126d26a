/** Promises 5 to 9: gives, flips, mends, sets, undo. */
public final class DeedsTest {
    private static final Checks CHECKS = new Checks();
    private static final int BAD = SharedLine.BAD, STATE = SharedLine.STATE;

    public static void main(String[] args) {
        giving();
        flipping();
        mending();
        setting();
        undoing();
        undoingEachDeed();
        refusedIsNotUndone();
        losingTheOldest();
        CHECKS.end();
    }

    private static void giving() {
        SharedLine x = CHECKS.told("line 1204;");
        CHECKS.due("gives(1, 1)", x.gives(1, 1), 1);
        CHECKS.due("gives(3, 1)", x.gives(3, 1), 2);
        CHECKS.due("hands", Checks.hands(x), 10);
        CHECKS.due("gives(3, 1) again", x.gives(3, 1), STATE);
        CHECKS.due("gives(1, 0)", x.gives(1, 0), 2);
        CHECKS.due("gives(2, 0) a rest", x.gives(2, 0), BAD);
        CHECKS.due("gives(2, 1) a rest", x.gives(2, 1), BAD);
        CHECKS.due("gives(4, 0)", x.gives(4, 0), BAD);
        CHECKS.due("gives(-1, 0)", x.gives(-1, 0), BAD);
        CHECKS.due("gives(32, 1)", x.gives(32, 1), BAD);
        CHECKS.due("gives(0, 2)", x.gives(0, 2), BAD);
        CHECKS.due("gives(0, -1)", x.gives(0, -1), BAD);
        CHECKS.due("gives(least)", x.gives(Integer.MIN_VALUE, 0), BAD);
        CHECKS.due("hands", Checks.hands(x), 8);
    }

    private static void flipping() {
        SharedLine x = CHECKS.told("line 120034;hands 100110;");
        CHECKS.due("flips(0, 5)", x.flips(0, 5), 4);
        CHECKS.due("hands", Checks.hands(x), 0b100010);
        CHECKS.due("flips(1, 4)", x.flips(1, 4), 2);
        CHECKS.due("hands", Checks.hands(x), 0b110000);
        CHECKS.due("flips(5, 5)", x.flips(5, 5), 1);
        CHECKS.due("hands", Checks.hands(x), 0b010000);
        CHECKS.due("flips(2, 3)", x.flips(2, 3), STATE);
        CHECKS.due("flips(1, 0)", x.flips(1, 0), BAD);
        CHECKS.due("flips(3, 2)", x.flips(3, 2), BAD);
        CHECKS.due("flips(-1, 2)", x.flips(-1, 2), BAD);
        CHECKS.due("flips(0, 6)", x.flips(0, 6), BAD);
        CHECKS.due("flips(6, 6)", x.flips(6, 6), BAD);
        SharedLine whole = CHECKS.told("line 111111111111;");
        CHECKS.due("flips(0, 11)", whole.flips(0, 11), 12);
        CHECKS.due("hands", Checks.hands(whole), 4095);
    }

    private static void mending() {
        SharedLine x = CHECKS.told("line 1111;hands 1100;");
        CHECKS.due("mends()", x.mends(), 2);
        // 0101 and 1010 both differ by two: HAND 0 at the first NOTE.
        CHECKS.due("hands", Checks.hands(x), 0b1010);
        CHECKS.due("mends() of a lawful one", x.mends(), STATE);
        SharedLine nearer = CHECKS.told("line 1111;hands 1110;");
        CHECKS.due("mends()", nearer.mends(), 1);
        CHECKS.due("hands", Checks.hands(nearer), 0b0101);
        // HAND 1 stays where it may: of 3 and 4 the earlier becomes HAND 0's.
        SharedLine mostly1 = CHECKS.told("line 10011;hands 10011;");
        CHECKS.due("mends()", mostly1.mends(), 1);
        CHECKS.due("hands", Checks.hands(mostly1), 0b10001);
        SharedLine none = CHECKS.told("line 111;wait 3;");
        CHECKS.due("mends() with none", none.mends(), STATE);
        CHECKS.due("hands stay", Checks.hands(none), 0);
        CHECKS.due("nothing done", none.count(7), 1);
        SharedLine far = CHECKS.told("line 10071;reach 1;wait 1;");
        CHECKS.due("mends() of what is too far", far.mends(), 1);
        CHECKS.due("hands", Checks.hands(far), 0b01000);
        CHECKS.due("mends() new", new SharedLine().mends(), STATE);
    }

    private static void setting() {
        SharedLine x = new SharedLine();
        int[] first = {2, 2, 4};
        int[] least = {1, 0, 2};
        int[] most = {5, 6, 6};
        for (int what = 0; what < 3; what++) {
            String call = "sets(" + what + ", ..)";
            CHECKS.due(call + " as it is", x.sets(what, first[what]), STATE);
            CHECKS.due(call + " too little", x.sets(what, least[what] - 1), BAD);
            CHECKS.due(call + " too much", x.sets(what, most[what] + 1), BAD);
            CHECKS.due(call + " least", x.sets(what, least[what]), first[what]);
            CHECKS.due(call + " most", x.sets(what, most[what]), least[what]);
            CHECKS.due(call + " most again", x.sets(what, most[what]), STATE);
            CHECKS.due(call + " counted", x.count(2 + what), most[what]);
        }
        CHECKS.due("sets(3, 2)", x.sets(3, 2), BAD);
        CHECKS.due("sets(-1, 2)", x.sets(-1, 2), BAD);
        CHECKS.due("sets(most, most)", x.sets(Integer.MAX_VALUE, Integer.MAX_VALUE), BAD);
        CHECKS.due("sets(0, least)", x.sets(0, Integer.MIN_VALUE), BAD);
    }

    private static void undoing() {
        SharedLine x = CHECKS.told("line 111;hands 010;");
        x.gives(0, 1);
        x.sets(0, 3);
        x.sees(0, 1);
        Checks.typed(x, "abc");
        CHECKS.due("undo()", x.undo(), 2);
        CHECKS.due("WAIT", x.count(2), 2);
        CHECKS.due("hands", Checks.hands(x), 3);
        CHECKS.due("undo()", x.undo(), 1);
        CHECKS.due("hands", Checks.hands(x), 2);
        CHECKS.due("undo()", x.undo(), 0);
        CHECKS.isTrue("a rest alone", Checks.lineOf(x).equals("0/-9 wait 2 reach 2 bar 4"));
        CHECKS.due("undo()", x.undo(), STATE);
        CHECKS.due("SEEN stays", x.count(5), 1);
        CHECKS.due("the text stays", x.count(6), 3);
    }

    private static void undoingEachDeed() {
        SharedLine x = CHECKS.told("line 71307;hands 10101;wait 3;reach 1;bar 3;");
        String was = Checks.lineOf(x);
        x.sets(0, 2);
        undone(x, was, "sets(0, 2)");
        x.sets(1, 2);
        undone(x, was, "sets(1, 2)");
        x.sets(2, 2);
        undone(x, was, "sets(2, 2)");
        x.flips(0, 4);
        undone(x, was, "flips(0, 4)");
        x.gives(0, 0);
        undone(x, was, "gives(0, 0)");
        Checks.typed(x, "line 0;").tells();
        undone(x, was, "tells()");
        SharedLine y = CHECKS.told("line 1111;wait 2;");
        was = Checks.lineOf(y);
        CHECKS.due("mends()", y.mends(), 2);
        undone(y, was, "mends()");
    }

    private static void undone(SharedLine x, String was, String deed) {
        CHECKS.isTrue(deed + " does something", !Checks.lineOf(x).equals(was));
        CHECKS.due("undo() of " + deed, x.undo(), 1);
        CHECKS.isTrue(deed + " undone: " + Checks.lineOf(x), Checks.lineOf(x).equals(was));
    }

    private static void refusedIsNotUndone() {
        SharedLine x = CHECKS.told("line 101;");
        x.gives(0, 0);
        x.gives(1, 0);
        x.flips(1, 1);
        x.flips(2, 3);
        x.mends();
        x.sets(0, 2);
        x.sets(0, 6);
        x.tells();
        x.keep(0);
        x.sees(0, 0);
        x.best(2);
        CHECKS.due("only tells() may be undone", x.count(7), 1);
        CHECKS.due("undo()", x.undo(), 0);
    }

    private static void losingTheOldest() {
        SharedLine x = CHECKS.told("line 1;");
        for (int i = 0; i < 9; i++) {
            x.sets(1, i % 2 == 0 ? 5 : 6);
            x.sets(0, i % 5 + 1);
        }
        CHECKS.due("six are known", x.count(7), 6);
        int[] waits = {3, 3, 2, 2, 1, 1};
        int[] reaches = {5, 6, 6, 5, 5, 6};
        for (int i = 0; i < 6; i++) {
            CHECKS.due("undo()", x.undo(), 5 - i);
            CHECKS.due("WAIT", x.count(2), waits[i]);
            CHECKS.due("REACH", x.count(3), reaches[i]);
        }
        CHECKS.due("older ones are lost", x.undo(), STATE);
    }
}
