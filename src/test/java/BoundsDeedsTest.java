/**
 * The bounds of what is done, promises 5 to 9: gives, flips, mends, sets, undo. Each method holds
 * one sentence of the document, which stands above it.
 */
public final class BoundsDeedsTest {
    private static final Checks CHECKS = new Checks();
    private static final int BAD = SharedLine.BAD, STATE = SharedLine.STATE;

    public static void main(String[] args) {
        givesFirstAndLastTick();
        givesNoTick();
        givesRest();
        givesCounts();
        givesWhatItHas();
        flipsOneAndAll();
        flipsNoTicks();
        flipsBackwards();
        flipsNone();
        flipsTwice();
        mendsLawful();
        mendsByNone();
        mendsFewest();
        mendsEarliestHand0();
        mendsOneToSix();
        setsNoSuchThing();
        setsWhatItIs();
        undoNone();
        undoSixKnown();
        undoOlderOnesLost();
        undoAroundTheRing();
        undoIsNoDeed();
        undoEveryTextTold();
        undoAllButTheText();
        undoRefusedCallsAreNone();
        CHECKS.end();
    }

    // "GIVEN (a tick with a NOTE ...)"
    private static void givesFirstAndLastTick() {
        for (int ticks = 1; ticks <= 12; ticks++) {
            SharedLine x = CHECKS.told("line " + "1".repeat(ticks) + ";");
            CHECKS.due("the last tick of " + ticks, x.gives(ticks - 1, 1), 1);
            CHECKS.due("HANDS", Checks.hands(x), 1 << ticks - 1);
            CHECKS.due("the tick behind " + ticks, x.gives(ticks, 1), BAD);
            CHECKS.due("HANDS", Checks.hands(x), 1 << ticks - 1);
            CHECKS.due("the first of " + ticks, x.gives(0, 1), ticks == 1 ? STATE : 2);
        }
    }

    private static void givesNoTick() {
        SharedLine x = CHECKS.told("line 111111111111;");
        for (int t : Checks.FAR_OUT) {
            CHECKS.due("gives(" + t + ", 1)", x.gives(t, 1), BAD);
        }
        CHECKS.due("gives(-1, 1)", x.gives(-1, 1), BAD);
        CHECKS.due("gives(12, 1)", x.gives(12, 1), BAD);
        CHECKS.due("gives(-1, 2)", x.gives(-1, 2), BAD);
        CHECKS.due("HANDS", Checks.hands(x), 0);
    }

    // "a tick with a NOTE": of a rest it is BAD by either HAND, ahead of STATE
    private static void givesRest() {
        SharedLine x = CHECKS.told("line 010;hands 111;");
        for (int hand = 0; hand <= 1; hand++) {
            CHECKS.due("gives(0, " + hand + ")", x.gives(0, hand), BAD);
            CHECKS.due("gives(2, " + hand + ")", x.gives(2, hand), BAD);
            CHECKS.due("gives(0, " + hand + ") new", new SharedLine().gives(0, hand), BAD);
        }
        CHECKS.due("gives(1, 0)", x.gives(1, 0), 1);
    }

    // "how many NOTES of that HAND there are then"
    private static void givesCounts() {
        SharedLine x = CHECKS.told("line 111111111111;");
        for (int t = 0; t < 12; t++) {
            CHECKS.due("gives(" + t + ", 1)", x.gives(t, 1), t + 1);
        }
        CHECKS.due("TILT", x.share(3), -12);
        for (int t = 11; t >= 0; t--) {
            CHECKS.due("gives(" + t + ", 0)", x.gives(t, 0), 12 - t);
        }
        CHECKS.due("TILT", x.share(3), 12);
        SharedLine rests = CHECKS.told("line 1020;hands 1111;");
        CHECKS.due("rests are no NOTES of HAND 0", rests.gives(0, 0), 1);
        CHECKS.due("nor of HAND 1", rests.gives(0, 1), 2);
    }

    // "STATE: it is that HAND's"
    private static void givesWhatItHas() {
        SharedLine x = CHECKS.told("line 11;hands 01;");
        CHECKS.due("gives(0, 0)", x.gives(0, 0), STATE);
        CHECKS.due("gives(1, 1)", x.gives(1, 1), STATE);
        CHECKS.due("nothing done", x.count(7), 1);
        CHECKS.due("gives(1, 0)", x.gives(1, 0), 2);
        CHECKS.due("gives(1, 0) again", x.gives(1, 0), STATE);
    }

    // "TURNED, from t to u (ticks ...): how many NOTES"
    private static void flipsOneAndAll() {
        for (int ticks = 1; ticks <= 12; ticks++) {
            SharedLine x = CHECKS.told("line " + "1".repeat(ticks) + ";");
            CHECKS.due("all of " + ticks, x.flips(0, ticks - 1), ticks);
            CHECKS.due("HANDS", Checks.hands(x), (1 << ticks) - 1);
            CHECKS.due("the last of " + ticks, x.flips(ticks - 1, ticks - 1), 1);
            CHECKS.due("HANDS", Checks.hands(x), (1 << ticks - 1) - 1);
            CHECKS.due("one too many", x.flips(0, ticks), BAD);
            CHECKS.due("behind the last", x.flips(ticks, ticks), BAD);
            CHECKS.due("HANDS", Checks.hands(x), (1 << ticks - 1) - 1);
        }
        SharedLine x = CHECKS.told("line 111;");
        CHECKS.due("the first", x.flips(0, 0), 1);
        CHECKS.due("HANDS", Checks.hands(x), 1);
    }

    private static void flipsNoTicks() {
        SharedLine x = CHECKS.told("line 111111111111;");
        CHECKS.due("flips(-1, 0)", x.flips(-1, 0), BAD);
        CHECKS.due("flips(-1, -1)", x.flips(-1, -1), BAD);
        CHECKS.due("flips(11, 12)", x.flips(11, 12), BAD);
        CHECKS.due("flips(12, 12)", x.flips(12, 12), BAD);
        for (int t : Checks.FAR_OUT) {
            CHECKS.due("flips(" + t + ", 5)", x.flips(t, 5), BAD);
            CHECKS.due("flips(5, " + t + ")", x.flips(5, t), BAD);
            CHECKS.due("flips(" + t + ", " + t + ")", x.flips(t, t), BAD);
        }
        CHECKS.due("HANDS", Checks.hands(x), 0);
    }

    // "u no less than t"
    private static void flipsBackwards() {
        SharedLine x = CHECKS.told("line 111111111111;");
        CHECKS.due("flips(5, 4)", x.flips(5, 4), BAD);
        CHECKS.due("flips(11, 0)", x.flips(11, 0), BAD);
        CHECKS.due("flips(1, 0)", x.flips(1, 0), BAD);
        CHECKS.due("HANDS", Checks.hands(x), 0);
        CHECKS.due("flips(5, 5)", x.flips(5, 5), 1);
    }

    // "STATE: there is none"; and BAD is ahead of it
    private static void flipsNone() {
        SharedLine x = CHECKS.told("line 1001;hands 1111;");
        CHECKS.due("flips(1, 1)", x.flips(1, 1), STATE);
        CHECKS.due("flips(1, 2)", x.flips(1, 2), STATE);
        CHECKS.due("flips(2, 1)", x.flips(2, 1), BAD);
        CHECKS.due("nothing done", x.count(7), 1);
        CHECKS.due("flips(0, 2)", x.flips(0, 2), 1);
        CHECKS.due("flips(1, 3)", x.flips(1, 3), 1);
        SharedLine rest = new SharedLine();
        CHECKS.due("flips(0, 0) of a rest", rest.flips(0, 0), STATE);
        CHECKS.due("flips(0, 1) of a rest", rest.flips(0, 1), BAD);
        CHECKS.due("flips(1, 0) of a rest", rest.flips(1, 0), BAD);
    }

    // "all NOTES of some ticks from t to u to the other HAND"
    private static void flipsTwice() {
        SharedLine x = CHECKS.told("line 10111;hands 11010;");
        CHECKS.due("flips(0, 4)", x.flips(0, 4), 4);
        CHECKS.due("HANDS", Checks.hands(x), 0b10100);
        CHECKS.due("flips(0, 4)", x.flips(0, 4), 4);
        CHECKS.due("HANDS", Checks.hands(x), 0b01001);
    }

    // "STATE: THE SHARE is LAWFUL ..."
    private static void mendsLawful() {
        CHECKS.due("a new object", new SharedLine().mends(), STATE);
        SharedLine x = CHECKS.told("line 11;hands 01;");
        CHECKS.due("two hands", x.mends(), STATE);
        CHECKS.due("one note", CHECKS.told("line 7;wait 5;reach 0;").mends(), STATE);
        CHECKS.due("nothing done", x.count(7), 1);
        x.gives(1, 0);
        CHECKS.due("one hand", x.mends(), 1);
        CHECKS.due("mended", x.mends(), STATE);
        CHECKS.due("done", x.count(7), 3);
    }

    // "... or there is no LAWFUL one"
    private static void mendsByNone() {
        SharedLine soon = CHECKS.told("line 111;hands 010;wait 3;");
        CHECKS.due("too soon for both", soon.mends(), STATE);
        CHECKS.due("HANDS", Checks.hands(soon), 2);
        CHECKS.due("nothing done", soon.count(7), 1);
        CHECKS.due("WAIT", soon.sets(0, 2), 3);
        CHECKS.due("lawful as it is", soon.mends(), STATE);
        SharedLine far = CHECKS.told("line 147;wait 1;reach 1;");
        CHECKS.due("too far for both", far.mends(), STATE);
        far.sets(1, 2);
        // 1 4 and 4 7 differ by 3: REACH 2 and a tick together.
        CHECKS.due("within reach it is lawful", far.mends(), STATE);
    }

    // "the LAWFUL one that has the fewest NOTES of other HANDS than it"
    private static void mendsFewest() {
        SharedLine x = CHECKS.told("line 111111;hands 101011;");
        CHECKS.due("one of six", x.mends(), 1);
        CHECKS.due("HANDS", Checks.hands(x), 0b010101);
        SharedLine y = CHECKS.told("line 111111;hands 010100;");
        CHECKS.due("one of six", y.mends(), 1);
        CHECKS.due("HANDS", Checks.hands(y), 0b101010);
    }

    // "of several that which at the first NOTE at which they differ has HAND 0"
    private static void mendsEarliestHand0() {
        SharedLine both = CHECKS.told("line 11;hands 11;");
        CHECKS.due("either of two", both.mends(), 1);
        CHECKS.due("HANDS", Checks.hands(both), 0b10);
        SharedLine zeros = CHECKS.told("line 11;");
        CHECKS.due("either of two", zeros.mends(), 1);
        CHECKS.due("HANDS", Checks.hands(zeros), 0b10);
        // The first NOTE is not at the first tick, and the last pair differs alone.
        SharedLine late = CHECKS.told("line 010011;hands 011111;");
        CHECKS.due("either of two", late.mends(), 1);
        CHECKS.due("HANDS", Checks.hands(late), 0b100010);
    }

    // "how many NOTES are of other HANDS": from one to half of twelve
    private static void mendsOneToSix() {
        for (int ticks = 2; ticks <= 12; ticks++) {
            SharedLine x = CHECKS.told("line " + "1".repeat(ticks) + ";");
            CHECKS.due("of " + ticks, x.mends(), ticks / 2);
            CHECKS.due("LAWFUL", x.share(4), 1);
            CHECKS.due("HANDS", Checks.hands(x), 0b101010101010 & (1 << ticks) - 1);
        }
    }

    // "WAIT (what = 0), REACH (1), BAR (2) is n ... BAD"
    private static void setsNoSuchThing() {
        SharedLine x = new SharedLine();
        for (int n = 0; n <= 7; n++) {
            CHECKS.due("sets(-1, " + n + ")", x.sets(-1, n), BAD);
            CHECKS.due("sets(3, " + n + ")", x.sets(3, n), BAD);
        }
        for (int what : Checks.FAR_OUT) {
            CHECKS.due("sets(" + what + ", 3)", x.sets(what, 3), BAD);
            CHECKS.due("sets(" + what + ", " + what + ")", x.sets(what, what), BAD);
        }
        CHECKS.same("the line", Checks.lineOf(x), "0/-9 wait 2 reach 2 bar 4");
    }

    // "STATE: it is that"
    private static void setsWhatItIs() {
        int[] first = {2, 2, 4};
        for (int what = 0; what < 3; what++) {
            SharedLine x = new SharedLine();
            CHECKS.due("as at first", x.sets(what, first[what]), STATE);
            CHECKS.due("nothing done", x.count(7), 0);
            CHECKS.due("another", x.sets(what, 5), first[what]);
            CHECKS.due("the same", x.sets(what, 5), STATE);
            CHECKS.due("one done", x.count(7), 1);
            CHECKS.due("back again", x.sets(what, first[what]), 5);
            CHECKS.due("two done", x.count(7), 2);
        }
    }

    // "STATE: none"
    private static void undoNone() {
        SharedLine x = new SharedLine();
        CHECKS.due("undo() new", x.undo(), STATE);
        x.sets(0, 1);
        CHECKS.due("undo() of one", x.undo(), 0);
        CHECKS.due("undo() again", x.undo(), STATE);
        CHECKS.due("WAIT", x.count(2), 2);
    }

    // "(6 are known ...)", "how many more may be"
    private static void undoSixKnown() {
        for (int deeds = 1; deeds <= 6; deeds++) {
            SharedLine x = new SharedLine();
            for (int i = 1; i <= deeds; i++) {
                doDeed(x, i);
                CHECKS.due("known of " + i, x.count(7), i);
            }
            for (int i = deeds; i >= 1; i--) {
                CHECKS.same("ahead of it", Checks.lineOf(x), lineBehindDeed(i));
                CHECKS.due("more of " + deeds, x.undo(), i - 1);
            }
            CHECKS.same("as at first", Checks.lineOf(x), lineBehindDeed(0));
            CHECKS.due("none", x.undo(), STATE);
        }
    }

    // "older ones are lost"
    private static void undoOlderOnesLost() {
        for (int deeds = 7; deeds <= 20; deeds++) {
            SharedLine x = new SharedLine();
            for (int i = 1; i <= deeds; i++) {
                doDeed(x, i);
                CHECKS.due("known of " + i, x.count(7), Math.min(i, 6));
            }
            for (int i = 0; i < 6; i++) {
                CHECKS.due("more of " + deeds, x.undo(), 5 - i);
                CHECKS.same("undone", Checks.lineOf(x), lineBehindDeed(deeds - 1 - i));
            }
            CHECKS.due("the seventh", x.undo(), STATE);
            CHECKS.same("stays", Checks.lineOf(x), lineBehindDeed(deeds - 6));
        }
    }

    // The same, where some are undone in between: what is kept may lie in any turn.
    private static void undoAroundTheRing() {
        for (int undone = 1; undone <= 6; undone++) {
            SharedLine x = new SharedLine();
            for (int i = 1; i <= 8; i++) {
                doDeed(x, i);
            }
            for (int i = 1; i <= undone; i++) {
                CHECKS.due("undo()", x.undo(), 6 - i);
            }
            for (int i = 9 - undone; i <= 12; i++) {
                doDeed(x, i);
            }
            CHECKS.due("known", x.count(7), 6);
            for (int i = 11; i >= 6; i--) {
                CHECKS.due("undo()", x.undo(), i - 6);
                CHECKS.same("undone", Checks.lineOf(x), lineBehindDeed(i));
            }
            CHECKS.due("the seventh", x.undo(), STATE);
        }
    }

    /** The deed i leaves its own number in REACH and BAR, by turns; the states all differ. */
    private static void doDeed(SharedLine x, int i) {
        if (i % 3 == 0) {
            Checks.typed(x, "line 1" + "0".repeat(i / 3) + ";").tells();
        } else {
            x.sets(i % 3 == 1 ? 1 : 2, i % 3 == 1 ? 5 : 6);
        }
    }

    private static String lineBehindDeed(int i) {
        String ticks = i < 3 ? "0/-9 " : "1/0 " + "0/-9 ".repeat(i / 3);
        return ticks + "wait 2 reach " + (i % 3 >= 1 ? 5 : 2) + " bar " + (i % 3 == 2 ? 6 : 4);
    }

    // "UNDONE: the latest tells(), gives(), flips(), mends(), sets()": no undo(), no other call
    private static void undoIsNoDeed() {
        SharedLine x = CHECKS.told("line 12;");
        x.gives(0, 1);
        x.undo();
        CHECKS.due("known", x.count(7), 1);
        x.keep(0);
        x.sees(0, 0);
        x.forget();
        x.type('l');
        x.clear();
        CHECKS.due("known", x.count(7), 1);
        CHECKS.due("the text told is the latest", x.undo(), 0);
        CHECKS.same("as at first", Checks.lineOf(x), lineBehindDeed(0));
    }

    // A text told is a deed, whether it tells something else or not.
    private static void undoEveryTextTold() {
        SharedLine x = CHECKS.told("line 0;");
        CHECKS.due("known", x.count(7), 1);
        Checks.typed(x, "line 0;").tells();
        CHECKS.due("known", x.count(7), 2);
        CHECKS.due("undo()", x.undo(), 1);
        CHECKS.due("undo()", x.undo(), 0);
    }

    // "all that 1 tells but THE TEXT is as ahead of it"
    private static void undoAllButTheText() {
        SharedLine x = CHECKS.told("line 1203;hands 0101;wait 3;reach 1;bar 5;");
        String was = Checks.lineOf(x);
        Checks.typed(x, "line 77;hands 11;wait 1;reach 6;bar 2;").tells();
        Checks.typed(x, "line 5;");
        x.sees(1, 1);
        x.keep(1);
        CHECKS.due("undo()", x.undo(), 1);
        CHECKS.same("the line", Checks.lineOf(x), was);
        CHECKS.due("THE TEXT stays", x.count(6), 7);
        CHECKS.due("SEEN stays", x.count(5), 1);
        CHECKS.due("IMAGES stay", x.back(1), 2);
        CHECKS.due("THE TEXT can be told", x.tells(), 1);
        CHECKS.same("the line", Checks.lineOf(x), "5/0 wait 2 reach 2 bar 4");
    }

    // "... that was not refused"
    private static void undoRefusedCallsAreNone() {
        SharedLine x = CHECKS.told("line 101;hands 001;");
        x.gives(0, 0);
        x.gives(1, 1);
        x.gives(3, 1);
        x.flips(1, 1);
        x.flips(2, 1);
        x.mends();
        x.sets(0, 2);
        x.sets(0, 6);
        x.sets(3, 1);
        x.tells();
        Checks.typed(x, "line 8;").tells();
        CHECKS.due("known", x.count(7), 1);
        CHECKS.due("undo()", x.undo(), 0);
        CHECKS.same("as at first", Checks.lineOf(x), lineBehindDeed(0));
    }
}
