/** Promises 12 to 14: best, slowest, change. */
public final class OtherSharesTest {
    private static final Checks CHECKS = new Checks();
    private static final int NO = SharedLine.NO, NOT = SharedLine.NOT, NONE = SharedLine.NONE;

    public static void main(String[] args) {
        bestByLikeness();
        bestByTilt();
        bestByOrder();
        bestOfNone();
        slowest();
        change();
        nothingChanges();
        CHECKS.end();
    }

    private static void best(SharedLine x, int likeness, int tilt, int share) {
        CHECKS.due("best(0)", x.best(0), likeness);
        CHECKS.due("best(1)", x.best(1), tilt);
        CHECKS.due("best(2)", x.best(2), share);
    }

    private static void bestByLikeness() {
        // Ticks 0, 1, 4, 5; WAIT 1: likeness 2 by equal HANDS at 0/4 and 1/5; tilt 0 by 0101.
        best(CHECKS.told("line 110011;wait 1;"), 2, 0, 0b100010);
        // Likeness is ahead of tilt: all three a BAR apart of one HAND, TILT 3.
        best(CHECKS.told("line 10101;bar 2;"), 2, 3, 0);
        // WAIT 3 forbids all of it: 0 2 4 alternate, or two neighbours would be too soon.
        best(CHECKS.told("line 10101;bar 2;wait 3;"), 0, 1, 0b00100);
    }

    private static void bestByTilt() {
        best(CHECKS.told("line 1010;bar 3;"), 0, 0, 0b0100);
        best(CHECKS.told("line 10101;bar 3;wait 1;"), 0, 1, 0b10000);
        // TILT -1 and 1 are as near to 0: the first NOTE's HAND 0 settles it.
        best(CHECKS.told("line 7;"), 0, 1, 0);
    }

    private static void bestByOrder() {
        best(CHECKS.told("line 1111;wait 1;bar 6;"), 0, 0, 0b1100);
        best(CHECKS.told("line 1111;hands 1010;"), 0, 0, 0b1010);
        best(CHECKS.told("line 111111111111;wait 1;bar 6;reach 6;"), 6, 0, 0b111000111000);
    }

    private static void bestOfNone() {
        best(CHECKS.told("line 111;wait 3;"), NOT, NOT, NOT);
        best(CHECKS.told("line 174;wait 1;reach 0;"), NOT, NOT, NOT);
        best(new SharedLine(), 0, 0, 0);
        SharedLine x = CHECKS.told("line 111;wait 3;");
        CHECKS.due("best(3) of none", x.best(3), NO);
        CHECKS.due("best(-1)", x.best(-1), NO);
        CHECKS.due("best(most)", x.best(Integer.MAX_VALUE), NO);
    }

    private static void slowest() {
        slowest("line 0;", 5);
        slowest("line 11;", 5);
        slowest("line 111;", 2);
        slowest("line 10101;wait 5;", 4);
        slowest("line 1010001;", 5);
        slowest("line 1001001;", 5);
        slowest("line 111111111111;wait 5;", 2);
        slowest("line 1707;reach 0;wait 5;", 2);
        // 1 7 1: pitches force the HANDS, by which the 1s are two apart.
        slowest("line 171;reach 0;wait 1;", 2);
        // 1 4 7 each too far from the others.
        slowest("line 147;reach 0;wait 1;", NONE);
        slowest("line 147;reach 1;wait 1;", NONE);
        slowest("line 147;reach 2;wait 1;", 1);
    }

    private static void slowest(String text, int due) {
        CHECKS.due("slowest() of " + text, CHECKS.told(text).slowest(), due);
    }

    private static void change() {
        SharedLine x = CHECKS.told("line 111111;hands 110101;");
        CHECKS.due("change()", x.change(), 1);
        x.flips(0, 5);
        CHECKS.due("change() turned", x.change(), 1);
        x.gives(0, 1);
        CHECKS.due("change() lawful", x.change(), 0);
        x.sets(0, 3);
        CHECKS.due("change() with none", x.change(), NONE);
        CHECKS.due("change() new", new SharedLine().change(), 0);
        CHECKS.due("change() of all but HAND 0's", CHECKS.told("line 111111;").change(), 3);
    }

    private static void nothingChanges() {
        SharedLine x = CHECKS.told("line 1212;hands 1100;bar 2;");
        String was = Checks.lineOf(x);
        x.best(2);
        x.slowest();
        x.change();
        x.tables(0);
        x.which(0);
        x.listen();
        CHECKS.isTrue("nothing is changed", Checks.lineOf(x).equals(was));
        CHECKS.due("nothing more to undo", x.count(7), 1);
    }
}
