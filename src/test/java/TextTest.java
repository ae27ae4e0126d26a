/** Promises 1 to 4: a new object, type, clear, tells. */
public final class TextTest {
    private static final Checks CHECKS = new Checks();

    public static void main(String[] args) {
        newObject();
        typing();
        clearing();
        wholeTexts();
        blanks();
        faultsOfWords();
        faultsOfFigures();
        faultsOfEnds();
        faultsChangeNothing();
        tellsAnew();
        CHECKS.end();
    }

    private static void newObject() {
        SharedLine x = new SharedLine();
        int[] counts = {1, 0, 2, 2, 4, 0, 0, 0};
        for (int what = 0; what < counts.length; what++) {
            CHECKS.due("new count(" + what + ")", x.count(what), counts[what]);
        }
        CHECKS.due("new tick(0, 0)", x.tick(0, 0), 0);
        CHECKS.due("new tick(0, 1)", x.tick(0, 1), SharedLine.NONE);
        CHECKS.due("new undo()", x.undo(), SharedLine.STATE);
        CHECKS.due("new back(0)", x.back(0), SharedLine.STATE);
        CHECKS.due("new back(1)", x.back(1), SharedLine.STATE);
    }

    private static void typing() {
        SharedLine x = new SharedLine();
        CHECKS.due("type(-1)", x.type(-1), SharedLine.BAD);
        CHECKS.due("type(256)", x.type(256), SharedLine.BAD);
        CHECKS.due("type(least)", x.type(Integer.MIN_VALUE), SharedLine.BAD);
        CHECKS.due("type(most)", x.type(Integer.MAX_VALUE), SharedLine.BAD);
        CHECKS.due("type(0)", x.type(0), 1);
        CHECKS.due("type(255)", x.type(255), 2);
        for (int many = 3; many <= 120; many++) {
            CHECKS.due("type(32)", x.type(32), many);
        }
        CHECKS.due("type(32) of 120", x.type(32), SharedLine.FULL);
        CHECKS.due("type(256) of 120", x.type(256), SharedLine.BAD);
        CHECKS.due("count(6) of 120", x.count(6), 120);
    }

    private static void clearing() {
        SharedLine x = new SharedLine();
        CHECKS.due("clear() of nothing", x.clear(), 0);
        Checks.typed(x, "line 1;");
        CHECKS.due("clear()", x.clear(), 7);
        CHECKS.due("count(6)", x.count(6), 0);
        CHECKS.due("tells() cleared", x.tells(), -10);
        CHECKS.due("type('w')", x.type('w'), 1);
    }

    private static void wholeTexts() {
        CHECKS.tells("line 0;", 1, "0/-9 wait 2 reach 2 bar 4");
        CHECKS.tells("line 0123;", 1, "0/-9 1/0 2/0 3/0 wait 2 reach 2 bar 4");
        CHECKS.tells("line 123456701234;", 1,
                "1/0 2/0 3/0 4/0 5/0 6/0 7/0 0/-9 1/0 2/0 3/0 4/0 wait 2 reach 2 bar 4");
        CHECKS.tells("line 707;hands 011;", 2, "7/0 0/-9 7/1 wait 2 reach 2 bar 4");
        CHECKS.tells("wait 5;line 1;reach 6;hands 1;bar 6;", 5, "1/1 wait 5 reach 6 bar 6");
        CHECKS.tells("bar 2;reach 0;wait 1;line 1;", 4, "1/0 wait 1 reach 0 bar 2");
        CHECKS.tells("wait 1;wait 3;line 1;wait 4;", 4, "1/0 wait 4 reach 2 bar 4");
        CHECKS.tells("bar 3;line 1;bar 5;reach 1;reach 3;", 5, "1/0 wait 2 reach 3 bar 5");
    }

    private static void blanks() {
        CHECKS.tells("   line   12  ;  hands  01 ;  ", 2, "1/0 2/1 wait 2 reach 2 bar 4");
        CHECKS.tells("line12;hands01;wait1;", 3, "1/0 2/1 wait 1 reach 2 bar 4");
    }

    private static void faultsOfWords() {
        CHECKS.fault("lines 1;", 0);
        CHECKS.fault("lin 1;", 0);
        CHECKS.fault("linez 1;", 0);
        CHECKS.fault("linea 1;", 0);
        CHECKS.fault("xine 1;", 0);
        CHECKS.fault("bat 1;", 0);
        CHECKS.fault("  waits 1;", 2);
        CHECKS.fault("lineline 1;", 0);
        CHECKS.fault("Line 1;", 0);
        CHECKS.fault("linE 1;", 0);
        CHECKS.fault("line 1;hand 0;", 7);
        CHECKS.fault("line line 1;", 5);
        CHECKS.fault("line 1; line 2;", 8);
        CHECKS.fault("line 1;hands 0; hands 1;", 16);
        CHECKS.fault("wait 1;hands 0;line 1;", 7);
        CHECKS.fault(";", 0);
        CHECKS.fault("line 1;;", 7);
        CHECKS.fault("1;", 0);
        CHECKS.fault("line 1; 2;", 8);
        CHECKS.fault("line\t1;", 4);
        CHECKS.fault("line 1;\n", 7);
        CHECKS.fault("line 1" + (char) 255 + ";", 6);
        CHECKS.fault("line " + (char) 0 + ";", 5);
        CHECKS.fault("{ine 1;", 0);
        CHECKS.fault("`ine 1;", 0);
    }

    private static void faultsOfFigures() {
        CHECKS.fault("line ;", 5);
        CHECKS.fault("line 8;", 5);
        CHECKS.fault("line 1238;", 5);
        CHECKS.fault("line 9;", 5);
        CHECKS.fault("line 19;", 5);
        CHECKS.fault("line 1234567890123;", 5);
        CHECKS.fault("line 1 2;", 7);
        CHECKS.fault("line 1x;", 6);
        CHECKS.fault("line 1:;", 6);
        CHECKS.fault("line 1/;", 6);
        CHECKS.fault("line 1234567123456;", 5);
        CHECKS.fault("line 12;hands 011;", 14);
        CHECKS.fault("line 12;hands 0;", 14);
        CHECKS.fault("line 12;hands 02;", 14);
        CHECKS.fault("line 00;hands 02;", 14);
        CHECKS.fault("line 12;hands;", 13);
        CHECKS.fault("line 1;wait 0;", 12);
        CHECKS.fault("line 1;wait 6;", 12);
        CHECKS.fault("line 1;wait 02;", 12);
        CHECKS.fault("line 1;wait 2 2;", 14);
        CHECKS.fault("line 1;reach 7;", 13);
        CHECKS.fault("line 1;reach 11;", 13);
        CHECKS.fault("line 1;bar 1;", 11);
        CHECKS.fault("line 1;bar 7;", 11);
        CHECKS.fault("line 1;bar;", 10);
        // The first TOKEN that can't stand there, though a worse one comes behind it.
        CHECKS.fault("wait 9;foo", 5);
        CHECKS.fault("line 1 foo 8", 7);
    }

    private static void faultsOfEnds() {
        CHECKS.fault("", 0);
        CHECKS.fault("   ", 3);
        CHECKS.fault("line", 4);
        CHECKS.fault("line  ", 6);
        CHECKS.fault("line 12", 7);
        CHECKS.fault("line 12  ", 9);
        CHECKS.fault("wait 2;", 7);
        CHECKS.fault("wait 2; ", 8);
        CHECKS.fault("line 1;hands", 12);
        CHECKS.fault("line 1;wait 1", 13);
        CHECKS.fault("wait 2;reach 2;bar 2; wait 1;", 29);
    }

    private static void faultsChangeNothing() {
        SharedLine x = CHECKS.told("line 12;hands 01;wait 3;reach 4;bar 5;");
        String was = Checks.lineOf(x);
        Checks.typed(x, "line 777;hands 111;wait 1;bar 9;");
        CHECKS.due("tells() at fault", x.tells(), -10 - 30);
        CHECKS.isTrue("the line stays", Checks.lineOf(x).equals(was));
        CHECKS.due("the text stays", x.count(6), 32);
        CHECKS.due("tells() again", x.tells(), -10 - 30);
        CHECKS.due("no more to undo", x.count(7), 1);
    }

    private static void tellsAnew() {
        SharedLine x = CHECKS.told("line 1234;hands 1111;wait 3;reach 4;bar 5;");
        CHECKS.due("the text is empty", x.count(6), 0);
        x.sees(1, 1);
        x.keep(0);
        Checks.typed(x, "line 0505;");
        CHECKS.due("tells()", x.tells(), 1);
        CHECKS.isTrue("what is not told is as at first",
                Checks.lineOf(x).equals("0/-9 5/0 0/-9 5/0 wait 2 reach 2 bar 4"));
        CHECKS.due("SEEN stays", x.count(5), 1);
        CHECKS.due("both may be undone", x.count(7), 2);
        CHECKS.due("the image stays", x.back(0), 4);
        CHECKS.isTrue("as it was kept",
                Checks.lineOf(x).equals("1/1 2/1 3/1 4/1 wait 3 reach 4 bar 5"));
        String longest = "line 1;" + " ".repeat(112) + ";";
        CHECKS.fault(longest, 119);
        CHECKS.tells("line 1;" + " ".repeat(113), 1, "1/0 wait 2 reach 2 bar 4");
    }
}
