/**
 * The bounds of promises 21 to 23: keep, back, count; and of an object's 512 calls. Each method
 * holds one sentence of the document, which stands above it.
 */
public final class BoundsImagesTest {
    private static final Checks CHECKS = new Checks();
    private static final int BAD = SharedLine.BAD, STATE = SharedLine.STATE;

    public static void main(String[] args) {
        imagesAre0And1();
        keepAnswersT();
        backBeforeKeep();
        badAheadOfState();
        imagesStandAlone();
        imagesKeepAllButTheText();
        nothingUndoneBehindBack();
        keepUndoesNothing();
        imagesStay();
        countBounds();
        countLeastAndMost();
        lastCallOf512();
        CHECKS.end();
    }

    // "IMAGES 0, 1", "BAD"
    private static void imagesAre0And1() {
        SharedLine x = new SharedLine();
        CHECKS.due("keep(-1)", x.keep(-1), BAD);
        CHECKS.due("keep(2)", x.keep(2), BAD);
        CHECKS.due("keep(0)", x.keep(0), 1);
        CHECKS.due("keep(1)", x.keep(1), 1);
        CHECKS.due("back(-1)", x.back(-1), BAD);
        CHECKS.due("back(2)", x.back(2), BAD);
        CHECKS.due("back(0)", x.back(0), 1);
        CHECKS.due("back(1)", x.back(1), 1);
        for (int image : Checks.FAR_OUT) {
            CHECKS.due("keep(" + image + ")", x.keep(image), BAD);
            CHECKS.due("back(" + image + ")", x.back(image), BAD);
        }
    }

    // "An IMAGE is kept: T.", "All of that becomes as an IMAGE has it: T."
    private static void keepAnswersT() {
        for (int ticks = 1; ticks <= 12; ticks++) {
            SharedLine x = CHECKS.told("line " + "10".repeat(6).substring(0, ticks) + ";");
            CHECKS.due("keep(0)", x.keep(0), ticks);
            Checks.typed(x, "line 77;").tells();
            CHECKS.due("back(0)", x.back(0), ticks);
            CHECKS.due("T", x.count(0), ticks);
            CHECKS.due("NOTES", x.count(1), (ticks + 1) / 2);
        }
    }

    // "STATE: none was kept"
    private static void backBeforeKeep() {
        SharedLine x = CHECKS.told("line 12;");
        CHECKS.due("back(0)", x.back(0), STATE);
        CHECKS.due("back(1)", x.back(1), STATE);
        CHECKS.due("what may be UNDONE stays", x.count(7), 1);
        x.keep(1);
        CHECKS.due("back(0) with 1 kept", x.back(0), STATE);
        CHECKS.due("what may be UNDONE stays", x.count(7), 1);
        CHECKS.due("back(1)", x.back(1), 2);
        SharedLine y = new SharedLine();
        y.keep(0);
        CHECKS.due("back(1) with 0 kept", y.back(1), STATE);
    }

    // "the first of these that is so: BAD ..., STATE"
    private static void badAheadOfState() {
        SharedLine x = new SharedLine();
        CHECKS.due("back(2) with none kept", x.back(2), BAD);
        CHECKS.due("back(-1) with none kept", x.back(-1), BAD);
    }

    // Two IMAGES, each of its own: neither changes with the other, nor with THE LINE
    private static void imagesStandAlone() {
        SharedLine x = CHECKS.told("line 123;hands 010;wait 3;");
        String first = Checks.lineOf(x);
        x.keep(0);
        x.flips(0, 2);
        x.sets(1, 6);
        String second = Checks.lineOf(x);
        x.keep(1);
        x.gives(0, 0);
        x.back(0);
        CHECKS.same("image 0", Checks.lineOf(x), first);
        x.flips(0, 0);
        x.back(1);
        CHECKS.same("image 1", Checks.lineOf(x), second);
        x.sets(2, 6);
        x.back(0);
        CHECKS.same("image 0 again", Checks.lineOf(x), first);
        x.keep(1);
        x.sets(0, 1);
        x.back(1);
        CHECKS.same("image 1 kept anew", Checks.lineOf(x), first);
    }

    // "keep all that 1 tells but THE TEXT; nothing else"
    private static void imagesKeepAllButTheText() {
        SharedLine x = CHECKS.told("line 765432100123;hands 010101010101;wait 5;reach 0;bar 6;");
        String was = Checks.lineOf(x);
        Checks.typed(x, "line 5;");
        x.sees(0, 0);
        x.keep(0);
        x.clear();
        x.forget();
        Checks.typed(x, "line 3;hands 1;").tells();
        x.sees(1, 0);
        x.sees(2, 0);
        Checks.typed(x, "bar");
        x.back(0);
        CHECKS.same("the line", Checks.lineOf(x), was);
        CHECKS.due("THE TEXT stays as it is", x.count(6), 3);
        CHECKS.due("SEEN stays as it is", x.count(5), 2);
    }

    // "(nothing can be UNDONE behind back())"
    private static void nothingUndoneBehindBack() {
        SharedLine x = CHECKS.told("line 12;");
        x.keep(0);
        for (int i = 0; i < 7; i++) {
            x.flips(0, 1);
        }
        CHECKS.due("ahead of it", x.count(7), 6);
        CHECKS.due("back(0)", x.back(0), 2);
        CHECKS.due("behind it", x.count(7), 0);
        CHECKS.due("undo()", x.undo(), STATE);
        x.gives(1, 1);
        CHECKS.due("what is done since", x.count(7), 1);
        CHECKS.due("undo()", x.undo(), 0);
        CHECKS.due("undo()", x.undo(), STATE);
        CHECKS.due("HANDS", Checks.hands(x), 0);
        x.gives(1, 1);
        x.back(2);
        x.back(1);
        CHECKS.due("a refused one takes nothing", x.count(7), 1);
    }

    private static void keepUndoesNothing() {
        SharedLine x = CHECKS.told("line 12;");
        x.keep(0);
        x.keep(1);
        CHECKS.due("keep() is no deed and takes none", x.count(7), 1);
        CHECKS.due("undo()", x.undo(), 0);
    }

    // "(A text told: ... IMAGES stay.)"; "UNDONE: all that 1 tells": IMAGES stay too
    private static void imagesStay() {
        SharedLine x = CHECKS.told("line 12;");
        x.keep(0);
        Checks.typed(x, "line 345;").tells();
        x.keep(1);
        x.undo();
        x.undo();
        Checks.typed(x, "line 8;").tells();
        x.clear();
        CHECKS.due("back(1)", x.back(1), 3);
        CHECKS.due("back(0)", x.back(0), 2);
    }

    // "0 T, 1 NOTES ... 7 how many may be UNDONE. BAD."
    private static void countBounds() {
        SharedLine x = new SharedLine();
        for (int what = 0; what <= 7; what++) {
            CHECKS.isTrue("count(" + what + ")", x.count(what) >= 0);
        }
        CHECKS.due("count(-1)", x.count(-1), BAD);
        CHECKS.due("count(8)", x.count(8), BAD);
        for (int what : Checks.FAR_OUT) {
            CHECKS.due("count(" + what + ")", x.count(what), BAD);
        }
    }

    private static void countLeastAndMost() {
        SharedLine least = new SharedLine();
        least.sets(0, 1);
        least.sets(1, 0);
        least.sets(2, 2);
        least.keep(0);
        least.back(0);
        counts(least, new int[] {1, 0, 1, 0, 2, 0, 0, 0});
        SharedLine most = CHECKS.told("line 777777777777;wait 5;reach 6;bar 6;");
        for (int i = 0; i < 6; i++) {
            most.flips(0, 11);
            most.sees(11, 1);
        }
        Checks.typed(most, "z".repeat(120));
        counts(most, new int[] {12, 12, 5, 6, 6, 6, 120, 6});
    }

    private static void counts(SharedLine x, int[] due) {
        for (int what = 0; what < due.length; what++) {
            CHECKS.due("count(" + what + ")", x.count(what), due[what]);
        }
    }

    // "An object is used for at most 512 calls": the last of them is answered like the first
    private static void lastCallOf512() {
        String text = "line 12;";
        SharedLine x = CHECKS.told(text);
        for (int call = text.length() + 2; call <= 506; call++) {
            CHECKS.due("flips(0, 1), call " + call, x.flips(0, 1), 2);
        }
        for (int more = 5; more >= 0; more--) {
            CHECKS.due("undo(), call " + (512 - more), x.undo(), more);
        }
        SharedLine y = new SharedLine();
        for (int call = 1; call <= 512; call += 2) {
            CHECKS.due("type(0), call " + call, y.type(0), 1);
            CHECKS.due("clear(), call " + (call + 1), y.clear(), 1);
        }
        SharedLine z = new SharedLine();
        for (int call = 1; call <= 512; call += 2) {
            CHECKS.due("sees(11, 1), call " + call, z.sees(11, 1), 1);
            CHECKS.due("forget(), call " + (call + 1), z.forget(), 1);
        }
    }
}
