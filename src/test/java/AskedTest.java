/** Promises 10, 11 and 15: tick, share, busiest. */
public final class AskedTest {
    private static final Checks CHECKS = new Checks();
    private static final int BAD = SharedLine.BAD, NO = SharedLine.NO, NONE = SharedLine.NONE;

    public static void main(String[] args) {
        ticks();
        tooSoonByWait();
        tooFarByReach();
        shares();
        likeness();
        handsOfRests();
        busiest();
        CHECKS.end();
    }

    private static void ticks() {
        SharedLine x = CHECKS.told("line 17030;hands 01110;wait 3;reach 0;");
        int[][] due = {
            {1, 0, 0, 0}, {7, 1, 1, 1}, {0, NONE, 0, 0}, {3, 1, 0, 0}, {0, NONE, 0, 0}};
        for (int t = 0; t < due.length; t++) {
            for (int what = 0; what < 4; what++) {
                CHECKS.due("tick(" + t + ", " + what + ")", x.tick(t, what), due[t][what]);
            }
        }
        CHECKS.due("tick(5, 0)", x.tick(5, 0), BAD);
        CHECKS.due("tick(-1, 0)", x.tick(-1, 0), BAD);
        CHECKS.due("tick(0, 4)", x.tick(0, 4), BAD);
        CHECKS.due("tick(0, -1)", x.tick(0, -1), BAD);
        CHECKS.due("tick(2, 4) a rest", x.tick(2, 4), BAD);
        CHECKS.due("tick(most, 0)", x.tick(Integer.MAX_VALUE, 0), BAD);
    }

    private static void tooSoonByWait() {
        SharedLine x = CHECKS.told("line 1001;");
        for (int wait = 1; wait <= 5; wait++) {
            x.sets(0, wait);
            CHECKS.due("tick(0, 2) by WAIT " + wait, x.tick(0, 2), wait > 3 ? 1 : 0);
        }
        CHECKS.due("share(0)", x.share(0), 1);
        x.gives(3, 1);
        CHECKS.due("tick(0, 2) of two hands", x.tick(0, 2), 0);
        CHECKS.due("share(0) of two hands", x.share(0), 0);
    }

    private static void tooFarByReach() {
        SharedLine x = CHECKS.told("line 602;");
        for (int reach = 0; reach <= 6; reach++) {
            x.sets(1, reach);
            CHECKS.due("tick(0, 3) by REACH " + reach, x.tick(0, 3), reach < 2 ? 1 : 0);
        }
        SharedLine up = CHECKS.told("line 206;reach 1;");
        CHECKS.due("tick(0, 3) upwards", up.tick(0, 3), 1);
        up.sets(1, 2);
        CHECKS.due("tick(0, 3) upwards within reach", up.tick(0, 3), 0);
    }

    private static void shares() {
        SharedLine x = CHECKS.told("line 17171;hands 00110;reach 3;");
        // HAND 0: ticks 0, 1, 4; HAND 1: ticks 2, 3.
        int[] due = {2, 2, 1, 1, 0};
        for (int what = 0; what < 5; what++) {
            CHECKS.due("share(" + what + ")", x.share(what), due[what]);
        }
        CHECKS.due("share(5)", x.share(5), NO);
        CHECKS.due("share(-1)", x.share(-1), NO);
        CHECKS.due("share(least)", x.share(Integer.MIN_VALUE), NO);
        SharedLine y = CHECKS.told("line 1234;hands 1111;");
        CHECKS.due("share(3) below 0", y.share(3), -4);
        SharedLine soon = CHECKS.told("line 11;");
        CHECKS.due("share(4) too soon", soon.share(4), 0);
        SharedLine far = CHECKS.told("line 107;");
        CHECKS.due("share(4) too far", far.share(4), 0);
        far.gives(2, 1);
        CHECKS.due("share(4) lawful", far.share(4), 1);
    }

    private static void likeness() {
        SharedLine x = CHECKS.told("line 110110110110;hands 100110000010;bar 3;");
        // Pairs three apart: ticks 0/3, 1/4, 3/6, 4/7, 6/9, 7/10; like: 0/3, 6/9.
        CHECKS.due("share(2)", x.share(2), 2);
        x.sets(2, 6);
        // 0/6, 1/7, 3/9, 4/10; like: 1/7, 4/10.
        CHECKS.due("share(2) by BAR 6", x.share(2), 2);
        x.sets(2, 2);
        // 1/3, 4/6, 7/9; like: 7/9.
        CHECKS.due("share(2) by BAR 2", x.share(2), 1);
        x.sets(2, 4);
        // 0/4, 3/7, 6/10; like: 0/4.
        CHECKS.due("share(2) by BAR 4", x.share(2), 1);
    }

    private static void handsOfRests() {
        SharedLine x = CHECKS.told("line 10010;hands 11111;bar 3;");
        CHECKS.due("share(3)", x.share(3), -2);
        CHECKS.due("share(2)", x.share(2), 1);
        CHECKS.due("busiest(1, 1)", x.busiest(1, 1), 1);
        CHECKS.due("change()", x.change(), 0);
        CHECKS.due("gives(0, 0)", x.gives(0, 0), 1);
        CHECKS.due("gives(0, 1)", x.gives(0, 1), 2);
    }

    private static void busiest() {
        SharedLine x = CHECKS.told("line 100110111;hands 000110001;bar 2;");
        // HAND 0: ticks 0, 6, 7; HAND 1: ticks 3, 4, 8.
        CHECKS.due("busiest(0, 0)", x.busiest(0, 0), 6);
        CHECKS.due("busiest(0, 1)", x.busiest(0, 1), 2);
        CHECKS.due("busiest(1, 0)", x.busiest(1, 0), 3);
        CHECKS.due("busiest(1, 1)", x.busiest(1, 1), 2);
        x.sets(2, 6);
        CHECKS.due("busiest(0, 0) by BAR 6", x.busiest(0, 0), 2);
        CHECKS.due("busiest(0, 1) by BAR 6", x.busiest(0, 1), 2);
        CHECKS.due("busiest(1, 0) by BAR 6", x.busiest(1, 0), 3);
        CHECKS.due("busiest(1, 1) by BAR 6", x.busiest(1, 1), 3);
        SharedLine early = CHECKS.told("line 1101;bar 2;");
        CHECKS.due("busiest(0, 0) early", early.busiest(0, 0), 0);
        CHECKS.due("busiest(0, 1) early", early.busiest(0, 1), 2);
        SharedLine late = CHECKS.told("line 000000000001;bar 3;");
        CHECKS.due("busiest(0, 0) late", late.busiest(0, 0), 9);
        CHECKS.due("busiest(0, 1) late", late.busiest(0, 1), 1);
        CHECKS.due("busiest(1, 0) of none", late.busiest(1, 0), 0);
        CHECKS.due("busiest(1, 1) of none", late.busiest(1, 1), 0);
        CHECKS.due("busiest(2, 0)", late.busiest(2, 0), BAD);
        CHECKS.due("busiest(-1, 0)", late.busiest(-1, 0), BAD);
        CHECKS.due("busiest(0, 2)", late.busiest(0, 2), BAD);
        CHECKS.due("busiest(0, -1)", late.busiest(0, -1), BAD);
    }
}
