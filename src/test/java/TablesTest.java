/** Promises 16 to 20: tables, sees, forget, which, listen. */
public final class TablesTest {
    private static final Checks CHECKS = new Checks();
    private static final int BAD = SharedLine.BAD, FULL = SharedLine.FULL, NONE = SharedLine.NONE;

    public static void main(String[] args) {
        tables();
        seeing();
        which();
        seenWhereNoNoteIs();
        listening();
        whatStays();
        CHECKS.end();
    }

    private static void tables(String text, int many, int least) {
        SharedLine x = CHECKS.told(text);
        CHECKS.due("tables(0) of " + text, x.tables(0), many);
        CHECKS.due("tables(1) of " + text, x.tables(1), least);
    }

    private static void tables() {
        tables("line 0;", 1, 0);
        tables("line 7;", 2, 0);
        tables("line 12;", 2, 1);
        tables("line 21;", 2, 1);
        tables("line 11;", 0, NONE);
        tables("line 76;", 2, 32);
        tables("line 76;wait 1;", 4, 0);
        tables("line 17;wait 1;", 2, 1);
        tables("line 1234567;wait 1;", 128, 0);
        tables("line 123;", 2, 2);
        tables("line 232;", 2, 2);
        SharedLine x = new SharedLine();
        CHECKS.due("tables(2)", x.tables(2), BAD);
        CHECKS.due("tables(-1)", x.tables(-1), BAD);
    }

    private static void seeing() {
        SharedLine x = new SharedLine();
        CHECKS.due("sees(12, 0)", x.sees(12, 0), BAD);
        CHECKS.due("sees(-1, 0)", x.sees(-1, 0), BAD);
        CHECKS.due("sees(0, 2)", x.sees(0, 2), BAD);
        CHECKS.due("sees(0, -1)", x.sees(0, -1), BAD);
        CHECKS.due("forget() of nothing", x.forget(), 0);
        for (int many = 1; many <= 6; many++) {
            CHECKS.due("sees(11, 1)", x.sees(11, 1), many);
        }
        CHECKS.due("sees(0, 0) of 6", x.sees(0, 0), FULL);
        CHECKS.due("sees(12, 0) of 6", x.sees(12, 0), BAD);
        CHECKS.due("sees(0, 2) of 6", x.sees(0, 2), BAD);
        CHECKS.due("count(5)", x.count(5), 6);
        CHECKS.due("forget()", x.forget(), 6);
        CHECKS.due("count(5)", x.count(5), 0);
        CHECKS.due("sees(0, 0)", x.sees(0, 0), 1);
    }

    private static void which(SharedLine x, int many, int least) {
        CHECKS.due("which(0)", x.which(0), many);
        CHECKS.due("which(1)", x.which(1), least);
    }

    private static void which() {
        SharedLine x = CHECKS.told("line 1203;wait 1;reach 6;");
        which(x, 8, 0);
        x.sees(3, 1);
        which(x, 4, 4);
        x.sees(0, 0);
        which(x, 2, 4);
        x.sees(1, 1);
        which(x, 1, 6);
        x.sees(1, 1);
        which(x, 1, 6);
        CHECKS.due("tables(0)", x.tables(0), 8);
        x.sees(0, 1);
        which(x, 0, NONE);
        CHECKS.due("forget()", x.forget(), 5);
        which(x, 8, 0);
        CHECKS.due("which(2)", x.which(2), BAD);
        CHECKS.due("which(-1)", x.which(-1), BAD);
    }

    private static void seenWhereNoNoteIs() {
        for (int hand = 0; hand < 2; hand++) {
            SharedLine rest = CHECKS.told("line 102;");
            rest.sees(1, hand);
            which(rest, 0, NONE);
            SharedLine behind = CHECKS.told("line 102;");
            behind.sees(3, hand);
            which(behind, 0, NONE);
            CHECKS.due("listen() by none", behind.listen(), NONE);
        }
        SharedLine full = CHECKS.told("line 7;");
        full.sees(0, 0);
        CHECKS.due("sees(5, 1) fills no gap", full.sees(5, 1), 2);
        which(full, 0, NONE);
    }

    private static void listening() {
        CHECKS.due("listen() new", new SharedLine().listen(), NONE);
        CHECKS.due("listen() of one note", CHECKS.told("line 05;").listen(), 1);
        // HANDS of 1 2 3 by TABLES that are lawful: the pitch 3 stands alone and is free.
        SharedLine x = CHECKS.told("line 1200003;");
        CHECKS.due("tables(0)", x.tables(0), 4);
        CHECKS.due("listen()", x.listen(), 0);
        x.sees(1, 1);
        CHECKS.due("listen() with 2 SEEN", x.listen(), 6);
        x.sees(6, 1);
        CHECKS.due("listen() with all SEEN", x.listen(), NONE);
        SharedLine none = CHECKS.told("line 11;");
        CHECKS.due("listen() by no TABLE", none.listen(), NONE);
        // 7 and 1 are too far apart, 4 is free: the tick SEEN tells nothing more.
        SharedLine free = CHECKS.told("line 407010;wait 1;reach 1;");
        CHECKS.due("tables(0)", free.tables(0), 4);
        CHECKS.due("listen()", free.listen(), 0);
        free.sees(0, 0);
        CHECKS.due("listen() with the first SEEN", free.listen(), 2);
        // 1 and 7 are too far apart, unless 4 is between them: three are left, 2 to 1 at 0 and 2.
        SharedLine uneven = CHECKS.told("line 147;wait 1;reach 2;");
        CHECKS.due("tables(0)", uneven.tables(0), 6);
        uneven.sees(1, 0);
        which(uneven, 3, 0);
        CHECKS.due("listen() of uneven ones", uneven.listen(), 0);
        uneven.sees(0, 1);
        which(uneven, 1, 1);
    }

    private static void whatStays() {
        SharedLine x = CHECKS.told("line 12;");
        x.keep(1);
        x.sees(0, 1);
        x.sets(0, 1);
        x.undo();
        CHECKS.due("SEEN stays behind undo()", x.which(1), 1);
        x.back(1);
        CHECKS.due("SEEN stays behind back()", x.count(5), 1);
        x.keep(0);
        x.forget();
        x.back(0);
        CHECKS.due("an image keeps nothing SEEN", x.count(5), 0);
    }
}
