/**
 * The bounds of promises 10 to 15: tick, share, best, slowest, change, busiest. Each method holds
 * one sentence of the document, which stands above it.
 */
public final class BoundsSharesTest {
    private static final Checks CHECKS = new Checks();
    private static final int BAD = SharedLine.BAD, NONE = SharedLine.NONE;
    private static final int NO = SharedLine.NO, NOT = SharedLine.NOT;

    public static void main(String[] args) {
        tickBounds();
        tickOfRests();
        tickWithoutNext();
        tooSoonByEveryWait();
        tooFarByEveryReach();
        nextOfThatHandAlone();
        lawfulIfNoneAre();
        shareBounds();
        pairsFromNoneToEleven();
        likenessOneBarBehind();
        likenessOfRests();
        tiltFromLeastToMost();
        bestBounds();
        bestNone();
        bestLikenessAheadOfTilt();
        bestTiltNearest0();
        bestTiltBelow0();
        bestHand0First();
        bestShareAsBits();
        slowestFrom1To5();
        slowestNone();
        slowestWhateverWaitIs();
        changeNoneAnd0();
        changeIsWhatMendsDoes();
        busiestBounds();
        busiestOfNone();
        busiestLeastTick();
        busiestBehindTheLine();
        busiestByEveryBar();
        CHECKS.end();
    }

    private static String apart(int first, int second, int d) {
        return "line " + first + "0".repeat(d - 1) + second + ";";
    }

    // "Of a tick: 0 its PITCH ..., 1 ..., 2 ..., 3 ... BAD"
    private static void tickBounds() {
        SharedLine x = CHECKS.told("line 111111111111;");
        for (int what = 0; what <= 3; what++) {
            CHECKS.isTrue("tick(0, " + what + ")", x.tick(0, what) >= 0);
            CHECKS.isTrue("tick(11, " + what + ")", x.tick(11, what) >= 0);
            CHECKS.due("tick(-1, " + what + ")", x.tick(-1, what), BAD);
            CHECKS.due("tick(12, " + what + ")", x.tick(12, what), BAD);
            for (int t : Checks.FAR_OUT) {
                CHECKS.due("tick(" + t + ", " + what + ")", x.tick(t, what), BAD);
            }
        }
        CHECKS.due("tick(0, -1)", x.tick(0, -1), BAD);
        CHECKS.due("tick(0, 4)", x.tick(0, 4), BAD);
        for (int what : Checks.FAR_OUT) {
            CHECKS.due("tick(0, " + what + ")", x.tick(0, what), BAD);
        }
        // Ticks that an earlier line had.
        Checks.typed(x, "line 1;").tells();
        CHECKS.due("tick(1, 0)", x.tick(1, 0), BAD);
        CHECKS.due("tick(1, 1)", x.tick(1, 1), BAD);
    }

    // "0 its PITCH (0 a rest), 1 its HAND (NONE: a rest) ... 0 where there is no NOTE"
    private static void tickOfRests() {
        SharedLine x = CHECKS.told("line 1010;hands 1111;wait 5;reach 0;");
        int[][] due = {{1, 1, 1, 0}, {0, NONE, 0, 0}, {1, 1, 0, 0}, {0, NONE, 0, 0}};
        for (int t = 0; t < 4; t++) {
            for (int what = 0; what < 4; what++) {
                CHECKS.due("tick(" + t + ", " + what + ")", x.tick(t, what), due[t][what]);
            }
        }
        CHECKS.due("tick(1, 4) of a rest", x.tick(1, 4), BAD);
        CHECKS.due("tick(1, -1) of a rest", x.tick(1, -1), BAD);
    }

    // "0 where there is ... no next one"
    private static void tickWithoutNext() {
        SharedLine x = CHECKS.told("line 1717;hands 0011;wait 5;reach 0;");
        int[] soon = {1, 0, 1, 0};
        for (int t = 0; t < 4; t++) {
            CHECKS.due("tick(" + t + ", 2)", x.tick(t, 2), soon[t]);
            CHECKS.due("tick(" + t + ", 3)", x.tick(t, 3), soon[t]);
        }
        SharedLine alone = CHECKS.told("line 17;hands 01;wait 5;reach 0;");
        for (int t = 0; t < 2; t++) {
            CHECKS.due("alone tick(" + t + ", 2)", alone.tick(t, 2), 0);
            CHECKS.due("alone tick(" + t + ", 3)", alone.tick(t, 3), 0);
        }
    }

    // "TOO SOON, if d is less than WAIT"
    private static void tooSoonByEveryWait() {
        for (int d = 1; d <= 11; d++) {
            SharedLine x = CHECKS.told(apart(1, 1, d));
            for (int wait = 1; wait <= 5; wait++) {
                x.sets(0, wait);
                int soon = d < wait ? 1 : 0;
                String of = " of " + d + " apart, WAIT " + wait;
                CHECKS.due("tick(0, 2)" + of, x.tick(0, 2), soon);
                CHECKS.due("share(0)" + of, x.share(0), soon);
                CHECKS.due("share(4)" + of, x.share(4), 1 - soon);
            }
        }
    }

    // "TOO FAR, if their PITCHES differ by more than REACH and d, together"
    private static void tooFarByEveryReach() {
        for (int leap = -6; leap <= 6; leap++) {
            for (int d = 1; d <= 7; d++) {
                int first = leap < 0 ? 7 : 1;
                SharedLine x = CHECKS.told(apart(first, first + leap, d));
                x.sets(0, 1);
                for (int reach = 0; reach <= 6; reach++) {
                    x.sets(1, reach);
                    int far = Math.abs(leap) > reach + d ? 1 : 0;
                    String of = " of a leap " + leap + ", " + d + " apart, REACH " + reach;
                    CHECKS.due("tick(0, 3)" + of, x.tick(0, 3), far);
                    CHECKS.due("share(1)" + of, x.share(1), far);
                    CHECKS.due("share(4)" + of, x.share(4), 1 - far);
                }
            }
        }
    }

    // "the second being the next one of that HAND behind the first"
    private static void nextOfThatHandAlone() {
        SharedLine between = CHECKS.told("line 171;hands 010;");
        CHECKS.due("the other HAND's is no next one", between.share(4), 1);
        SharedLine later = CHECKS.told("line 1047;wait 1;reach 2;");
        // 1 and 7 are 3 apart and differ by 6, but 4 is between them.
        CHECKS.due("the one behind the next does not count", later.share(4), 1);
        later.gives(2, 1);
        CHECKS.due("it does, if it is the next", later.tick(0, 3), 1);
        CHECKS.due("TOO FAR", later.share(1), 1);
    }

    // "A SHARE is LAWFUL, if none are."
    private static void lawfulIfNoneAre() {
        CHECKS.due("a rest alone", new SharedLine().share(4), 1);
        CHECKS.due("rests alone", CHECKS.told("line 000000000000;").share(4), 1);
        CHECKS.due("one note", CHECKS.told("line 1;").share(4), 1);
        CHECKS.due("one too soon", CHECKS.told("line 11;").share(4), 0);
        CHECKS.due("one too far", CHECKS.told("line 107;").share(4), 0);
        CHECKS.due("both", CHECKS.told("line 17;").share(4), 0);
        CHECKS.due("of HAND 1, the last pair",
                CHECKS.told("line 000000000011;hands 111111111111;").share(4), 0);
        CHECKS.due("neither", CHECKS.told("line 106;reach 3;").share(4), 1);
    }

    // "Of THE SHARE: 0 ... 4. NO: BAD."
    private static void shareBounds() {
        SharedLine x = CHECKS.told("line 12;");
        int[] due = {1, 0, 0, 2, 0};
        for (int what = 0; what <= 4; what++) {
            CHECKS.due("share(" + what + ")", x.share(what), due[what]);
        }
        CHECKS.due("share(-1)", x.share(-1), NO);
        CHECKS.due("share(5)", x.share(5), NO);
        for (int what : Checks.FAR_OUT) {
            CHECKS.due("share(" + what + ")", x.share(what), NO);
        }
    }

    // "0 how many pairs are TOO SOON, 1 TOO FAR"
    private static void pairsFromNoneToEleven() {
        SharedLine x = CHECKS.told("line 171717171717;reach 0;");
        CHECKS.due("share(0) of one hand", x.share(0), 11);
        CHECKS.due("share(1) of one hand", x.share(1), 11);
        x.mends();
        CHECKS.due("share(0) mended", x.share(0), 0);
        CHECKS.due("share(1) mended", x.share(1), 0);
        SharedLine y = CHECKS.told("line 171717171717;hands 000000111111;reach 0;");
        CHECKS.due("share(0) of halves", y.share(0), 10);
        CHECKS.due("share(1) of halves", y.share(1), 10);
    }

    // "LIKENESS ...: how many ticks t there are at which a NOTE is, and one BAR ticks behind it"
    private static void likenessOneBarBehind() {
        for (int bar = 2; bar <= 6; bar++) {
            for (int ticks = 1; ticks <= 12; ticks++) {
                SharedLine x = CHECKS.told("line " + "1".repeat(ticks) + ";bar " + bar + ";");
                String of = " of " + ticks + ", BAR " + bar;
                CHECKS.due("share(2)" + of, x.share(2), Math.max(0, ticks - bar));
                x.flips(0, ticks - 1);
                CHECKS.due("share(2) by HAND 1" + of, x.share(2), Math.max(0, ticks - bar));
                x.flips(ticks - 1, ticks - 1);
                CHECKS.due("share(2) but the last" + of, x.share(2), Math.max(0, ticks - bar - 1));
            }
        }
    }

    // The same: "a NOTE ... both of one HAND", rests are of none
    private static void likenessOfRests() {
        CHECKS.due("rests", CHECKS.told("line 0000;hands 1111;bar 2;").share(2), 0);
        CHECKS.due("a rest behind", CHECKS.told("line 100;bar 2;").share(2), 0);
        CHECKS.due("a rest ahead", CHECKS.told("line 001;bar 2;").share(2), 0);
        CHECKS.due("both notes", CHECKS.told("line 101;bar 2;").share(2), 1);
        CHECKS.due("two hands", CHECKS.told("line 101;hands 001;bar 2;").share(2), 0);
        CHECKS.due("told of a rest",
                CHECKS.told("line 10100;hands 11111;bar 2;").share(2), 1);
    }

    // "TILT: NOTES of HAND 0 less those of HAND 1."
    private static void tiltFromLeastToMost() {
        SharedLine x = CHECKS.told("line 111111111111;");
        CHECKS.due("all of HAND 0", x.share(3), 12);
        for (int t = 0; t < 12; t++) {
            x.gives(t, 1);
            CHECKS.due("TILT", x.share(3), 10 - 2 * t);
        }
        CHECKS.due("of rests", CHECKS.told("line 000;hands 111;").share(3), 0);
        CHECKS.due("of one HAND 1", CHECKS.told("line 010;hands 111;").share(3), -1);
    }

    private static void best(String text, int likeness, int tilt, int share) {
        SharedLine x = CHECKS.told(text);
        CHECKS.due("best(0) of " + text, x.best(0), likeness);
        CHECKS.due("best(1) of " + text, x.best(1), tilt);
        CHECKS.due("best(2) of " + text, x.best(2), share);
    }

    // "BEST: 0 LIKENESS, 1 TILT, 2 the SHARE ... NO: BAD"; BAD is ahead of there being none
    private static void bestBounds() {
        SharedLine some = CHECKS.told("line 1;");
        SharedLine none = CHECKS.told("line 111;wait 3;");
        for (int what : new int[] {-1, 3, 4, NO, NOT}) {
            CHECKS.due("best(" + what + ")", some.best(what), NO);
            CHECKS.due("best(" + what + ") of none", none.best(what), NO);
        }
        for (int what : Checks.FAR_OUT) {
            CHECKS.due("best(" + what + ")", some.best(what), NO);
            CHECKS.due("best(" + what + ") of none", none.best(what), NO);
        }
    }

    // "or there is none", "NOT: there is none"
    private static void bestNone() {
        best("line 111;wait 3;", NOT, NOT, NOT);
        best("line 111;wait 2;", 0, 1, 0b010);
        best("line 147;wait 1;reach 1;", NOT, NOT, NOT);
        best("line 147;wait 1;reach 2;", 0, 1, 0b100);
        best("line 111111111111;wait 3;", NOT, NOT, NOT);
        best("line 0;", 0, 0, 0);
    }

    // "those of the most LIKENESS; of several those whose TILT is least away from 0"
    private static void bestLikenessAheadOfTilt() {
        // All ticks two apart are alike, and TILT can still be 0.
        best("line 111111111111;wait 1;bar 2;", 10, 0, 0b101010101010);
        // Even ticks alone: all alike are one HAND's, though TILT is 6 by it.
        best("line 101010101010;wait 1;bar 2;", 5, 6, 0);
        best("line 101010101010;wait 3;bar 2;", 0, 0, 0b010001000100);
    }

    private static void bestTiltNearest0() {
        best("line 1111;wait 1;bar 4;", 0, 0, 0b1100);
        best("line 111;wait 1;bar 3;", 0, 1, 0b100);
        best("line 1;", 0, 1, 0);
    }

    // TILT may be below 0: so its BAD is NO, and -1 is an answer
    private static void bestTiltBelow0() {
        // 1 is too far from each of the 6s.
        best("line 1066;wait 1;reach 0;", 0, -1, 0b1100);
        best("line 106060;wait 1;reach 0;bar 2;", 1, -1, 0b010100);
        best("line 1060606;wait 2;reach 0;bar 2;", 2, -2, 0b1010100);
    }

    // "of several that which at the first NOTE at which they differ has HAND 0"
    private static void bestHand0First() {
        best("line 11;", 0, 0, 0b10);
        best("line 0011;hands 0010;", 0, 0, 0b1000);
        best("line 111111;wait 1;bar 6;", 0, 0, 0b111000);
    }

    // "a bit for each tick (1: HAND 1; rests 0)"
    private static void bestShareAsBits() {
        best("line 100000000001;wait 1;bar 2;", 0, 0, 1 << 11);
        best("line 000000000011;hands 111111111111;", 0, 0, 1 << 11);
        best("line 000000000000;hands 111111111111;", 0, 0, 0);
    }

    // "SLOWEST: the greatest WAIT (1 to 5) by which there is a LAWFUL SHARE"
    private static void slowestFrom1To5() {
        slowest("line 147;reach 2;", 1);
        slowest("line 111;", 2);
        slowest("line 1101;", 3);
        slowest("line 11001;", 4);
        slowest("line 110001;", 5);
        slowest("line 1100001;", 5);
        slowest("line 1;", 5);
        slowest("line 0;", 5);
        slowest("line 111111111111;", 2);
    }

    // "NONE"
    private static void slowestNone() {
        slowest("line 147;reach 1;", NONE);
        slowest("line 147;reach 0;", NONE);
        slowest("line 000000000147;reach 1;", NONE);
    }

    // "all else as it is": WAIT is not
    private static void slowestWhateverWaitIs() {
        for (int wait = 1; wait <= 5; wait++) {
            slowest("line 1101;wait " + wait + ";", 3);
            slowest("line 147;reach 1;wait " + wait + ";", NONE);
            slowest("line 10101;wait " + wait + ";", 4);
        }
    }

    private static void slowest(String text, int due) {
        SharedLine x = CHECKS.told(text);
        int wait = x.count(2);
        CHECKS.due("slowest() of " + text, x.slowest(), due);
        CHECKS.due("WAIT behind it", x.count(2), wait);
    }

    // "CHANGE: ... (0, if THE SHARE is LAWFUL); NONE"
    private static void changeNoneAnd0() {
        CHECKS.due("a rest alone", new SharedLine().change(), 0);
        CHECKS.due("lawful", CHECKS.told("line 11;hands 01;").change(), 0);
        CHECKS.due("lawful by HAND 1", CHECKS.told("line 11;hands 10;").change(), 0);
        CHECKS.due("none", CHECKS.told("line 111;wait 3;").change(), NONE);
        CHECKS.due("none", CHECKS.told("line 111;hands 010;wait 3;").change(), NONE);
        CHECKS.due("one", CHECKS.told("line 11;").change(), 1);
    }

    // "how many NOTES would be of other HANDS by MENDED"
    private static void changeIsWhatMendsDoes() {
        for (int hands = 0; hands < 64; hands++) {
            SharedLine x = CHECKS.told("line 123454;");
            for (int t = 0; t < 6; t++) {
                x.gives(t, hands >> t & 1);
            }
            int odd = Integer.bitCount(hands ^ 0b101010);
            int due = Math.min(odd, 6 - odd);
            CHECKS.due("change() of " + hands, x.change(), due);
            CHECKS.due("nothing is changed", Checks.hands(x), hands);
            CHECKS.due("mends() of " + hands, x.mends(), due == 0 ? SharedLine.STATE : due);
            CHECKS.due("change() behind it", x.change(), 0);
            CHECKS.due("HANDS", Checks.hands(x), odd < 4 ? 0b101010 : 0b010101);
        }
    }

    // "BUSIEST of a HAND: t (what = 0), how many (1). BAD."
    private static void busiestBounds() {
        SharedLine x = CHECKS.told("line 11;hands 01;");
        for (int what = 0; what <= 1; what++) {
            CHECKS.due("busiest(-1, " + what + ")", x.busiest(-1, what), BAD);
            CHECKS.due("busiest(2, " + what + ")", x.busiest(2, what), BAD);
            CHECKS.due("busiest(" + what + ", -1)", x.busiest(what, -1), BAD);
            CHECKS.due("busiest(" + what + ", 2)", x.busiest(what, 2), BAD);
            CHECKS.due("busiest(" + what + ", 1)", x.busiest(what, 1), 1);
            CHECKS.due("busiest(" + what + ", 0)", x.busiest(what, 0), 0);
            for (int far : Checks.FAR_OUT) {
                CHECKS.due("busiest(" + far + ", " + what + ")", x.busiest(far, what), BAD);
                CHECKS.due("busiest(" + what + ", " + far + ")", x.busiest(what, far), BAD);
            }
        }
    }

    // "the most of its NOTES": none at all
    private static void busiestOfNone() {
        for (int hand = 0; hand <= 1; hand++) {
            CHECKS.due("t of a rest", new SharedLine().busiest(hand, 0), 0);
            CHECKS.due("how many of a rest", new SharedLine().busiest(hand, 1), 0);
            SharedLine x = CHECKS.told("line 000000000000;hands 111111111111;");
            CHECKS.due("t of rests", x.busiest(hand, 0), 0);
            CHECKS.due("how many of rests", x.busiest(hand, 1), 0);
        }
        SharedLine x = CHECKS.told("line 0110;");
        CHECKS.due("t of HAND 1 without notes", x.busiest(1, 0), 0);
        CHECKS.due("how many of it", x.busiest(1, 1), 0);
    }

    // "of several the least"
    private static void busiestLeastTick() {
        SharedLine x = CHECKS.told("line 011011011011;hands 000111111000;bar 2;");
        CHECKS.due("t of HAND 0", x.busiest(0, 0), 1);
        CHECKS.due("how many", x.busiest(0, 1), 2);
        CHECKS.due("t of HAND 1", x.busiest(1, 0), 4);
        CHECKS.due("how many", x.busiest(1, 1), 2);
        x.sets(2, 6);
        CHECKS.due("t of HAND 0 by BAR 6", x.busiest(0, 0), 0);
        CHECKS.due("t of HAND 1 by BAR 6", x.busiest(1, 0), 3);
        CHECKS.due("how many", x.busiest(1, 1), 4);
    }

    // "(ticks behind THE LINE have none)"
    private static void busiestBehindTheLine() {
        SharedLine x = CHECKS.told("line 111111111111;hands 111111111111;");
        Checks.typed(x, "line 01;hands 01;bar 6;").tells();
        CHECKS.due("t", x.busiest(1, 0), 0);
        CHECKS.due("how many", x.busiest(1, 1), 1);
        SharedLine last = CHECKS.told("line 000000000011;bar 2;");
        CHECKS.due("t of the last two", last.busiest(0, 0), 10);
        CHECKS.due("how many", last.busiest(0, 1), 2);
    }

    // "at the BAR ticks from t on"
    private static void busiestByEveryBar() {
        for (int bar = 2; bar <= 6; bar++) {
            SharedLine x = CHECKS.told("line 000000000001;bar " + bar + ";");
            CHECKS.due("t by BAR " + bar, x.busiest(0, 0), 12 - bar);
            CHECKS.due("how many", x.busiest(0, 1), 1);
            SharedLine all = CHECKS.told("line 111111111111;bar " + bar + ";");
            CHECKS.due("t of all", all.busiest(0, 0), 0);
            CHECKS.due("how many of all", all.busiest(0, 1), bar);
            SharedLine few = CHECKS.told("line 1;bar " + bar + ";");
            CHECKS.due("how many of one", few.busiest(0, 1), 1);
        }
    }
}
