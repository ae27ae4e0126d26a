/** Promises 21 to 23: keep, back, count. */
public final class ImagesTest {
    private static final Checks CHECKS = new Checks();
    private static final int BAD = SharedLine.BAD, STATE = SharedLine.STATE;

    public static void main(String[] args) {
        refused();
        keepAndBack();
        keptAgain();
        keptAlone();
        counts();
        CHECKS.end();
    }

    private static void refused() {
        SharedLine x = new SharedLine();
        CHECKS.due("keep(-1)", x.keep(-1), BAD);
        CHECKS.due("keep(2)", x.keep(2), BAD);
        CHECKS.due("back(-1)", x.back(-1), BAD);
        CHECKS.due("back(2)", x.back(2), BAD);
        CHECKS.due("back(0)", x.back(0), STATE);
        CHECKS.due("keep(1)", x.keep(1), 1);
        CHECKS.due("back(0) with the other kept", x.back(0), STATE);
        CHECKS.due("back(1)", x.back(1), 1);
    }

    private static void keepAndBack() {
        SharedLine x = CHECKS.told("line 1020304;hands 1000001;wait 3;reach 4;bar 5;");
        String was = Checks.lineOf(x);
        CHECKS.due("keep(0)", x.keep(0), 7);
        CHECKS.due("may be undone", x.count(7), 1);
        Checks.typed(x, "line 7;").tells();
        x.sets(0, 1);
        CHECKS.due("keep(1)", x.keep(1), 1);
        Checks.typed(x, "ab");
        CHECKS.due("back(0)", x.back(0), 7);
        CHECKS.isTrue("all as kept", Checks.lineOf(x).equals(was));
        CHECKS.due("the text stays", x.count(6), 2);
        CHECKS.due("nothing can be undone", x.count(7), 0);
        CHECKS.due("undo()", x.undo(), STATE);
        CHECKS.due("back(1)", x.back(1), 1);
        CHECKS.isTrue("all as kept", Checks.lineOf(x).equals("7/0 wait 1 reach 2 bar 4"));
        x.flips(0, 0);
        CHECKS.due("what is done behind it can", x.undo(), 0);
    }

    private static void keptAgain() {
        SharedLine x = CHECKS.told("line 12;");
        x.keep(0);
        Checks.typed(x, "line 345;").tells();
        CHECKS.due("keep(0) again", x.keep(0), 3);
        x.undo();
        CHECKS.due("back(0)", x.back(0), 3);
        CHECKS.due("back(0) again", x.back(0), 3);
    }

    private static void keptAlone() {
        SharedLine x = CHECKS.told("line 12;");
        x.keep(0);
        x.flips(0, 1);
        x.sets(2, 6);
        x.back(0);
        CHECKS.isTrue("the image did not change with the line",
                Checks.lineOf(x).equals("1/0 2/0 wait 2 reach 2 bar 4"));
        x.flips(0, 0);
        x.back(0);
        CHECKS.isTrue("nor behind back()",
                Checks.lineOf(x).equals("1/0 2/0 wait 2 reach 2 bar 4"));
    }

    private static void counts() {
        SharedLine x = CHECKS.told("line 10203;wait 3;reach 5;bar 6;");
        x.flips(0, 2);
        x.gives(4, 1);
        x.sees(0, 1);
        x.sees(0, 1);
        Checks.typed(x, "wait");
        int[] due = {5, 3, 3, 5, 6, 2, 4, 3};
        for (int what = 0; what < due.length; what++) {
            CHECKS.due("count(" + what + ")", x.count(what), due[what]);
        }
        CHECKS.due("count(8)", x.count(8), BAD);
        CHECKS.due("count(-1)", x.count(-1), BAD);
        CHECKS.due("count(most)", x.count(Integer.MAX_VALUE), BAD);
    }
}
