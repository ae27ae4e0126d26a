/**
 * The bounds of promises 16 to 20: tables, sees, forget, which, listen. Each method holds one
 * sentence of the document, which stands above it.
 */
public final class BoundsTablesTest {
    private static final Checks CHECKS = new Checks();
    private static final int BAD = SharedLine.BAD, FULL = SharedLine.FULL, NONE = SharedLine.NONE;
    private static final String ALL_FREE = "line 1234567;wait 1;reach 6;";

    public static void main(String[] args) {
        tablesBounds();
        tablesFromNoneTo128();
        tablesOfUnusedPitches();
        tablesAsBits();
        tablesByPitchesNotByHands();
        seesTicksFrom0To11();
        seesHands();
        seesFull();
        badAheadOfFull();
        seesTheSameTwice();
        forgetEmptyAndFull();
        whichBounds();
        whichAllAndNone();
        whichEveryTick();
        seenOfRest();
        seenBehindTheLine();
        seenStays();
        listenOneAtMost();
        listenNoNote();
        listenGreaterIsLeast();
        listenEarliest();
        listenLastTick();
        CHECKS.end();
    }

    private static void tables(String text, int many, int least) {
        SharedLine x = CHECKS.told(text);
        CHECKS.due("tables(0) of " + text, x.tables(0), many);
        CHECKS.due("tables(1) of " + text, x.tables(1), least);
    }

    private static void which(SharedLine x, int many, int least) {
        CHECKS.due("which(0)", x.which(0), many);
        CHECKS.due("which(1)", x.which(1), least);
    }

    // "TABLES: how many (what = 0), the least (1; NONE). BAD."
    private static void tablesBounds() {
        SharedLine some = CHECKS.told("line 1;");
        SharedLine none = CHECKS.told("line 11;");
        CHECKS.due("tables(-1)", some.tables(-1), BAD);
        CHECKS.due("tables(2)", some.tables(2), BAD);
        CHECKS.due("tables(-1) of none", none.tables(-1), BAD);
        CHECKS.due("tables(2) of none", none.tables(2), BAD);
        for (int what : Checks.FAR_OUT) {
            CHECKS.due("tables(" + what + ")", some.tables(what), BAD);
        }
    }

    // "(So 128 at most.)", "NONE"
    private static void tablesFromNoneTo128() {
        tables(ALL_FREE, 128, 0);
        tables("line 765432112345;wait 1;reach 6;", 128, 0);
        tables("line 11;", 0, NONE);
        tables("line 11;wait 1;", 2, 0);
        tables("line 147;wait 1;reach 1;", 0, NONE);
        tables("line 111111111111;wait 1;", 2, 0);
        tables("line 0;", 1, 0);
        tables("line 000000000000;", 1, 0);
        CHECKS.due("tables(0) new", new SharedLine().tables(0), 1);
        CHECKS.due("tables(1) new", new SharedLine().tables(1), 0);
    }

    // "PITCHES that no NOTE has being told HAND 0"
    private static void tablesOfUnusedPitches() {
        for (int pitch = 1; pitch <= 7; pitch++) {
            SharedLine x = CHECKS.told("line " + pitch + ";");
            CHECKS.due("tables(0) of " + pitch, x.tables(0), 2);
            x.sees(0, 1);
            which(x, 1, 1 << pitch - 1);
        }
        for (int pitches = 1; pitches <= 7; pitches++) {
            SharedLine x = CHECKS.told(
                    "line " + "1234567".substring(0, pitches) + ";wait 1;reach 6;");
            CHECKS.due("tables(0) of " + pitches, x.tables(0), 1 << pitches);
        }
    }

    // "(as bits: PITCH 1 the lowest; 1: HAND 1)", "the least, as bits"
    private static void tablesAsBits() {
        tables("line 12;", 2, 0b0000001);
        tables("line 67;", 2, 0b0100000);
        tables("line 17;", 2, 0b0000001);
        tables("line 123;", 2, 0b0000010);
        SharedLine x = CHECKS.told("line 67;");
        x.sees(1, 1);
        which(x, 1, 0b1000000);
    }

    // "by it each NOTE is of its PITCH's HAND": whatever HANDS are now
    private static void tablesByPitchesNotByHands() {
        tables("line 1212;hands 0000;", 2, 1);
        tables("line 1212;hands 0101;", 2, 1);
        tables("line 1221;hands 0101;", 0, NONE);
    }

    // "SEEN (a tick 0 .. 11, a HAND): how much there is. BAD"
    private static void seesTicksFrom0To11() {
        for (int t = 0; t <= 11; t++) {
            CHECKS.due("sees(" + t + ", 0)", new SharedLine().sees(t, 0), 1);
            CHECKS.due("sees(" + t + ", 1)", new SharedLine().sees(t, 1), 1);
        }
        SharedLine x = CHECKS.told("line 111111111111;");
        CHECKS.due("sees(-1, 0)", x.sees(-1, 0), BAD);
        CHECKS.due("sees(12, 0)", x.sees(12, 0), BAD);
        for (int t : Checks.FAR_OUT) {
            CHECKS.due("sees(" + t + ", 1)", x.sees(t, 1), BAD);
        }
        CHECKS.due("SEEN", x.count(5), 0);
    }

    private static void seesHands() {
        SharedLine x = new SharedLine();
        CHECKS.due("sees(0, -1)", x.sees(0, -1), BAD);
        CHECKS.due("sees(0, 2)", x.sees(0, 2), BAD);
        for (int hand : Checks.FAR_OUT) {
            CHECKS.due("sees(0, " + hand + ")", x.sees(0, hand), BAD);
        }
        CHECKS.due("SEEN", x.count(5), 0);
    }

    // "SEEN (6 at most)", "FULL: 6"
    private static void seesFull() {
        SharedLine x = CHECKS.told(ALL_FREE);
        for (int t = 0; t < 6; t++) {
            CHECKS.due("sees(" + t + ", 1)", x.sees(t, 1), t + 1);
        }
        which(x, 2, 0b0111111);
        CHECKS.due("sees(6, 1)", x.sees(6, 1), FULL);
        which(x, 2, 0b0111111);
        CHECKS.due("sees(6, 0)", x.sees(6, 0), FULL);
        which(x, 2, 0b0111111);
        CHECKS.due("what was SEEN, once more", x.sees(0, 1), FULL);
        CHECKS.due("SEEN", x.count(5), 6);
    }

    // "the first of these that is so: BAD ..., FULL"
    private static void badAheadOfFull() {
        SharedLine x = new SharedLine();
        for (int i = 0; i < 6; i++) {
            x.sees(i, 0);
        }
        CHECKS.due("sees(12, 0) of 6", x.sees(12, 0), BAD);
        CHECKS.due("sees(-1, 0) of 6", x.sees(-1, 0), BAD);
        CHECKS.due("sees(0, 2) of 6", x.sees(0, 2), BAD);
        CHECKS.due("sees(0, -1) of 6", x.sees(0, -1), BAD);
        CHECKS.due("sees(11, 1) of 6", x.sees(11, 1), FULL);
    }

    // "how much there is": each call is one
    private static void seesTheSameTwice() {
        SharedLine x = CHECKS.told(ALL_FREE);
        for (int many = 1; many <= 6; many++) {
            CHECKS.due("sees(2, 1)", x.sees(2, 1), many);
            which(x, 64, 0b0000100);
        }
        CHECKS.due("sees(2, 1)", x.sees(2, 1), FULL);
    }

    // "Nothing is SEEN: how much was."
    private static void forgetEmptyAndFull() {
        SharedLine x = CHECKS.told(ALL_FREE);
        CHECKS.due("forget() of none", x.forget(), 0);
        for (int many = 1; many <= 6; many++) {
            for (int i = 0; i < many; i++) {
                x.sees(i, i & 1);
            }
            CHECKS.due("forget() of " + many, x.forget(), many);
            CHECKS.due("forget() again", x.forget(), 0);
            which(x, 128, 0);
        }
        CHECKS.due("sees(0, 0)", x.sees(0, 0), 1);
    }

    // "WHICH: how many (what = 0), the least (1; NONE). BAD."
    private static void whichBounds() {
        SharedLine some = CHECKS.told("line 1;");
        SharedLine none = CHECKS.told("line 11;");
        CHECKS.due("which(-1)", some.which(-1), BAD);
        CHECKS.due("which(2)", some.which(2), BAD);
        CHECKS.due("which(-1) of none", none.which(-1), BAD);
        CHECKS.due("which(2) of none", none.which(2), BAD);
        for (int what : Checks.FAR_OUT) {
            CHECKS.due("which(" + what + ")", some.which(what), BAD);
        }
    }

    // "TABLES by which all that was SEEN is so": nothing SEEN, and what can't be
    private static void whichAllAndNone() {
        SharedLine x = CHECKS.told(ALL_FREE);
        which(x, 128, 0);
        x.sees(3, 0);
        which(x, 64, 0);
        x.sees(3, 1);
        which(x, 0, NONE);
        CHECKS.due("TABLES stay", x.tables(0), 128);
        SharedLine same = CHECKS.told("line 101;");
        same.sees(0, 1);
        which(same, 1, 1);
        same.sees(2, 0);
        which(same, 0, NONE);
        SharedLine none = CHECKS.told("line 11;");
        which(none, 0, NONE);
        SharedLine rest = new SharedLine();
        which(rest, 1, 0);
    }

    private static void whichEveryTick() {
        for (int t = 0; t < 12; t++) {
            for (int hand = 0; hand <= 1; hand++) {
                SharedLine x = CHECKS.told("line 123456712345;wait 1;reach 6;");
                x.sees(t, hand);
                which(x, 64, hand == 0 ? 0 : 1 << t % 7);
            }
        }
    }

    // "(of a tick that has no NOTE this is so by no TABLE)": a rest
    private static void seenOfRest() {
        for (int hand = 0; hand <= 1; hand++) {
            SharedLine x = CHECKS.told("line 102;hands 010;");
            x.sees(1, hand);
            which(x, 0, NONE);
            CHECKS.due("listen()", x.listen(), NONE);
            CHECKS.due("TABLES stay", x.tables(0), 4);
            SharedLine rest = new SharedLine();
            rest.sees(0, hand);
            which(rest, 0, NONE);
        }
    }

    // The same: a tick behind THE LINE, until a line has it
    private static void seenBehindTheLine() {
        for (int hand = 0; hand <= 1; hand++) {
            SharedLine x = CHECKS.told("line 111111111111;wait 1;");
            Checks.typed(x, "line 12;").tells();
            x.sees(2, hand);
            which(x, 0, NONE);
            Checks.typed(x, "line 123;").tells();
            which(x, 1, hand == 0 ? 0b010 : 0b101);
            x.undo();
            which(x, 0, NONE);
        }
        SharedLine last = new SharedLine();
        last.sees(11, 1);
        which(last, 0, NONE);
        Checks.typed(last, "line 000000000007;").tells();
        which(last, 1, 64);
    }

    // "(A text told: ... what was SEEN, IMAGES stay.)", "IMAGES ... keep ... nothing else"
    private static void seenStays() {
        SharedLine x = CHECKS.told("line 12;");
        x.sees(0, 1);
        Checks.typed(x, "line 21;").tells();
        which(x, 1, 0b10);
        x.undo();
        which(x, 1, 0b01);
        x.keep(0);
        x.forget();
        x.back(0);
        CHECKS.due("an IMAGE has nothing SEEN", x.count(5), 0);
        x.sees(0, 0);
        x.back(0);
        CHECKS.due("nor takes it away", x.count(5), 1);
        which(x, 1, 0b10);
    }

    // "NONE (one can be at most ...)"
    private static void listenOneAtMost() {
        SharedLine two = CHECKS.told("line 12;");
        CHECKS.due("of two", two.listen(), 0);
        two.sees(0, 0);
        CHECKS.due("of one", two.listen(), NONE);
        two.sees(0, 1);
        CHECKS.due("of none", two.listen(), NONE);
        CHECKS.due("of no TABLE", CHECKS.told("line 11;").listen(), NONE);
    }

    // "... or there is no NOTE"
    private static void listenNoNote() {
        CHECKS.due("a rest alone", new SharedLine().listen(), NONE);
        CHECKS.due("rests alone", CHECKS.told("line 000000000000;").listen(), NONE);
    }

    // "the greater of two is least: how many of these have HAND 0 there, how many HAND 1"
    private static void listenGreaterIsLeast() {
        // With 4 of HAND 1, 1 and 7 can't both be of HAND 0: three ways, HAND 1 in two of them at
        // either; 2 is free, so of six there are three and three.
        SharedLine x = CHECKS.told("line 147002;wait 1;reach 2;");
        x.sees(1, 1);
        which(x, 6, 0b0001001);
        CHECKS.due("half and half", x.listen(), 5);
        x.sees(5, 0);
        CHECKS.due("two and one, twice", x.listen(), 0);
        x.sees(0, 1);
        CHECKS.due("one and one", x.listen(), 2);
        x.sees(2, 0);
        CHECKS.due("one alone", x.listen(), NONE);
        // What was SEEN there is told already: the greater of two is all.
        SharedLine y = CHECKS.told(ALL_FREE);
        for (int t = 0; t < 6; t++) {
            CHECKS.due("listen()", y.listen(), t);
            y.sees(t, t & 1);
        }
        CHECKS.due("listen() with 6 SEEN", y.listen(), 6);
    }

    // "of several the earliest"
    private static void listenEarliest() {
        CHECKS.due("all alike", CHECKS.told(ALL_FREE).listen(), 0);
        CHECKS.due("rests ahead", CHECKS.told("line 0012;").listen(), 2);
        SharedLine x = CHECKS.told("line 0123;wait 1;reach 6;");
        x.sees(1, 0);
        CHECKS.due("the first SEEN", x.listen(), 2);
        x.forget();
        x.sees(2, 0);
        CHECKS.due("the second SEEN", x.listen(), 1);
    }

    // "the tick with a NOTE": the last one of twelve
    private static void listenLastTick() {
        CHECKS.due("one note", CHECKS.told("line 000000000007;").listen(), 11);
        SharedLine x = CHECKS.told("line 100000000007;");
        CHECKS.due("the first", x.listen(), 0);
        x.sees(0, 1);
        CHECKS.due("the last", x.listen(), 11);
        x.sees(11, 1);
        CHECKS.due("neither", x.listen(), NONE);
    }
}
