/**
 * The bounds of THE TEXT and of promises 2 to 4: type, clear, tells. Each method holds one
 * sentence of the document, which stands above it.
 */
public final class BoundsTextTest {
    private static final Checks CHECKS = new Checks();
    private static final int BAD = SharedLine.BAD, FULL = SharedLine.FULL;
    private static final String[] WORDS = {"line", "hands", "wait", "reach", "bar"};
    private static final String LINE_1 = "1/0 wait 2 reach 2 bar 4";

    public static void main(String[] args) {
        lettersFrom0To255();
        lettersFull();
        badAheadOfFull();
        clearedEmptyAndFull();
        longestTexts();
        mostItems();
        emptiedByTelling();
        blanksAnywhereBetween();
        blanksNotWithin();
        blanksNeeded();
        otherLettersAreNoBlanks();
        lettersBehindWord();
        lettersBehindFigure();
        lettersAsFigure();
        lettersBehindItem();
        wordsLongerAndShorter();
        lineOnce();
        handsOnce();
        handsAheadOfLine();
        handsOfOtherLength();
        handsOfRests();
        numbersAgain();
        numbersOfNotOneFigure();
        tokensOutOfPlace();
        firstFaultCounts();
        endsTooEarly();
        endsWithoutLine();
        CHECKS.end();
    }

    // "A letter (0 .. 255) comes to THE TEXT: how many it has. BAD"
    private static void lettersFrom0To255() {
        for (int letter = 0; letter <= 255; letter++) {
            SharedLine x = new SharedLine();
            CHECKS.due("type(" + letter + ")", x.type(letter), 1);
            CHECKS.due("type(" + letter + ")", x.type(letter), 2);
        }
        SharedLine x = new SharedLine();
        CHECKS.due("type(-1)", x.type(-1), BAD);
        CHECKS.due("type(256)", x.type(256), BAD);
        CHECKS.due("letters", x.count(6), 0);
        int[] wrong = {
            Integer.MIN_VALUE, -256, -255, -224, 257, 256 + 'l', 65536 + 'l', Integer.MAX_VALUE};
        for (int letter : wrong) {
            CHECKS.due("type(" + letter + ")", x.type(letter), BAD);
        }
        CHECKS.due("letters", x.count(6), 0);
    }

    // "(120 letters at most)", "FULL: 120"
    private static void lettersFull() {
        SharedLine x = new SharedLine();
        for (int many = 1; many <= 120; many++) {
            CHECKS.due("the letter " + many, x.type('a'), many);
        }
        CHECKS.due("one letter more", x.type('a'), FULL);
        CHECKS.due("one letter more", x.type(0), FULL);
        CHECKS.due("one letter more", x.type(255), FULL);
        CHECKS.due("letters", x.count(6), 120);
    }

    // "the first of these that is so: BAD ..., FULL"
    private static void badAheadOfFull() {
        SharedLine x = Checks.typed(new SharedLine(), " ".repeat(120));
        CHECKS.due("type(-1) of 120", x.type(-1), BAD);
        CHECKS.due("type(256) of 120", x.type(256), BAD);
        CHECKS.due("type(255) of 120", x.type(255), FULL);
    }

    // "THE TEXT is empty: how many letters it had."
    private static void clearedEmptyAndFull() {
        SharedLine x = new SharedLine();
        CHECKS.due("clear() of none", x.clear(), 0);
        x.type('l');
        CHECKS.due("clear() of one", x.clear(), 1);
        CHECKS.due("clear() again", x.clear(), 0);
        Checks.typed(x, "line 7;" + "x".repeat(113));
        CHECKS.due("clear() of 120", x.clear(), 120);
        CHECKS.due("letters", x.count(6), 0);
        CHECKS.due("nothing is left of it", x.tells(), -10);
        CHECKS.due("and there is room", x.type('l'), 1);
    }

    // "(120 letters at most)", told whole; the FAULT at the last letter, and behind it
    private static void longestTexts() {
        CHECKS.tells("line 1;" + " ".repeat(107) + "bar 2;", 2, "1/0 wait 2 reach 2 bar 2");
        CHECKS.tells(" ".repeat(113) + "line 1;", 1, LINE_1);
        CHECKS.tells("line 1;" + " ".repeat(113), 1, LINE_1);
        CHECKS.tells("line" + " ".repeat(114) + "1;", 1, LINE_1);
        CHECKS.fault("line 1;" + " ".repeat(112) + ";", 119);
        CHECKS.fault("line 1;" + " ".repeat(107) + "bar  2", 120);
        CHECKS.fault(" ".repeat(120), 120);
        CHECKS.fault("a".repeat(120), 0);
        CHECKS.fault("1".repeat(120), 0);
        CHECKS.fault(";".repeat(120), 0);
        SharedLine x = Checks.typed(new SharedLine(), "line 1;" + " ".repeat(107) + "bar  2;");
        CHECKS.due("the letter 121 did not come", x.tells(), -10 - 120);
    }

    // "how many ITEMS"
    private static void mostItems() {
        CHECKS.tells("line1;", 1, LINE_1);
        CHECKS.tells("line1;" + "bar2;".repeat(22), 23, "1/0 wait 2 reach 2 bar 2");
        CHECKS.tells("bar2;".repeat(22) + "line1;    ", 23, "1/0 wait 2 reach 2 bar 2");
        CHECKS.tells("line1;hands1;" + "wait3;".repeat(17), 19, "1/1 wait 3 reach 2 bar 4");
    }

    // "THE TEXT tells all anew, and is empty then"
    private static void emptiedByTelling() {
        SharedLine x = CHECKS.told("line 12;");
        CHECKS.due("letters", x.count(6), 0);
        CHECKS.due("told, it is empty", x.tells(), -10);
        CHECKS.due("T", x.count(0), 2);
        Checks.typed(x, " ".repeat(119));
        CHECKS.due("120 have room again", x.type(' '), 120);
        CHECKS.due("and no more", x.type(' '), FULL);
    }

    // "blanks (32) may stand ahead of, between and behind TOKENS"
    private static void blanksAnywhereBetween() {
        CHECKS.tells(" line 1;", 1, LINE_1);
        CHECKS.tells("line  1;", 1, LINE_1);
        CHECKS.tells("line 1 ;", 1, LINE_1);
        CHECKS.tells("line 1; ", 1, LINE_1);
        CHECKS.tells("line 1; wait 1;", 2, "1/0 wait 1 reach 2 bar 4");
        CHECKS.tells("   line   1   ;   hands   1   ;   ", 2, "1/1 wait 2 reach 2 bar 4");
    }

    // "between ... TOKENS": none is torn by a blank
    private static void blanksNotWithin() {
        CHECKS.fault("li ne 1;", 0);
        CHECKS.fault("line 1;hand s 1;", 7);
        CHECKS.fault("line 1;w ait 1;", 7);
        CHECKS.fault("line 1 2;", 7);
        CHECKS.fault("line 12;hands 0 1;", 14);
        CHECKS.fault("line 1;wait 1 1;", 14);
    }

    // "(needed between two TOKENS of figures alone)": nowhere else
    private static void blanksNeeded() {
        CHECKS.tells("line12;hands01;wait1;reach0;bar2;", 5, "1/0 2/1 wait 1 reach 0 bar 2");
        CHECKS.fault("line12 34;", 7);
        CHECKS.tells("line1234;", 1, "1/0 2/0 3/0 4/0 wait 2 reach 2 bar 4");
    }

    // "blanks (32)"
    private static void otherLettersAreNoBlanks() {
        for (int letter : new int[] {0, 9, 10, 13, 31, 33, 127, 160, 255}) {
            CHECKS.fault((char) letter + "line 1;", 0);
            CHECKS.fault("line" + (char) letter + "1;", 4);
            CHECKS.fault("line 1" + (char) letter + ";", 6);
            CHECKS.fault("line 1;" + (char) letter, 7);
        }
    }

    // "TOKENS are words (rows of letters a to z ...), rows of figures, and ;", "any other letter"
    private static void lettersBehindWord() {
        for (char letter = 0; letter <= 255; letter++) {
            String text = "line" + letter + "1;";
            if (letter == ' ') {
                CHECKS.tells(text, 1, LINE_1);
            } else if (letter == '0') {
                CHECKS.tells(text, 1, "0/-9 " + LINE_1);
            } else if (letter > '0' && letter <= '7') {
                CHECKS.tells(text, 1, letter + "/0 " + LINE_1);
            } else {
                CHECKS.fault(text, letter >= 'a' && letter <= 'z' ? 0 : 4);
            }
        }
    }

    private static void lettersBehindFigure() {
        for (char letter = 0; letter <= 255; letter++) {
            String text = "line 1" + letter + ";";
            if (letter == ' ') {
                CHECKS.tells(text, 1, LINE_1);
            } else if (letter == '0') {
                CHECKS.tells(text, 1, "1/0 0/-9 wait 2 reach 2 bar 4");
            } else if (letter > '0' && letter <= '7') {
                CHECKS.tells(text, 1, "1/0 " + letter + "/0 wait 2 reach 2 bar 4");
            } else {
                CHECKS.fault(text, letter == ';' ? 7 : letter == '8' || letter == '9' ? 5 : 6);
            }
        }
    }

    private static void lettersAsFigure() {
        for (char letter = 0; letter <= 255; letter++) {
            String text = "line 1;reach " + letter + ";";
            if (letter >= '0' && letter <= '6') {
                CHECKS.tells(text, 2, "1/0 wait 2 reach " + letter + " bar 4");
            } else {
                CHECKS.fault(text, letter == ' ' ? 14 : 13);
            }
        }
    }

    private static void lettersBehindItem() {
        for (char letter = 0; letter <= 255; letter++) {
            if (letter == ' ') {
                CHECKS.tells("line 1; ", 1, LINE_1);
            } else {
                CHECKS.fault("line 1;" + letter, 7);
            }
        }
    }

    // "of a word that is none of these ... that TOKEN's"
    private static void wordsLongerAndShorter() {
        for (String word : WORDS) {
            int last = word.length() - 1;
            String[] others = {
                word.substring(1), word.substring(0, last), word + "a", word + "z", word + "s",
                "a" + word, "z" + word, word + word, word.substring(0, last) + "z",
                "z" + word.substring(1), "a", "z", "zzzzz"};
            for (String other : others) {
                CHECKS.fault("  " + other + " 1;", 2);
                CHECKS.fault("line 1; " + other + " 1;", 8);
            }
            CHECKS.fault("line 1; " + word.toUpperCase() + " 1;", 8);
            CHECKS.fault("line 1;" + word.substring(0, last) + "E 1;", 7);
        }
    }

    // "line F (... once at most)", "(line, hands again ...)"
    private static void lineOnce() {
        CHECKS.fault("line 1;line 1;", 7);
        CHECKS.fault("line 1;wait 1; line 1;", 15);
        CHECKS.fault("line 1;line", 7);
        CHECKS.fault("line 1;hands 1;line 2;", 15);
    }

    // "hands F (... once at most ...)"
    private static void handsOnce() {
        CHECKS.tells("line 1;hands 1;", 2, "1/1 wait 2 reach 2 bar 4");
        CHECKS.fault("line 1;hands 1;hands 1;", 15);
        CHECKS.fault("line 1;hands 1; bar 2; hands", 23);
    }

    // "hands F (... behind line)", "hands ahead of line"
    private static void handsAheadOfLine() {
        CHECKS.fault("hands 1;line 1;", 0);
        CHECKS.fault(" wait 1; hands 1;line 1;", 9);
        CHECKS.fault("hands", 0);
        CHECKS.tells("line 1;wait 1;hands 1;", 3, "1/1 wait 1 reach 2 bar 4");
        // A line told earlier is not this text's: hands stand behind the line of their own text.
        SharedLine x = CHECKS.told("line 1;");
        Checks.typed(x, "hands 1;");
        CHECKS.due("hands of an earlier line", x.tells(), -10);
    }

    // "as many as THE LINE has", "hands ... of other length"
    private static void handsOfOtherLength() {
        for (int ticks = 1; ticks <= 12; ticks++) {
            String line = "line " + "1".repeat(ticks) + ";hands ";
            CHECKS.due("hands of " + ticks,
                    CHECKS.told(line + "1".repeat(ticks) + ";").share(3), -ticks);
            CHECKS.fault(line + "1".repeat(ticks + 1) + ";", line.length());
            if (ticks > 1) {
                CHECKS.fault(line + "1".repeat(ticks - 1) + ";", line.length());
            }
            CHECKS.fault(line + ";", line.length());
        }
        // As many as the line told now has, not the one ahead of it.
        SharedLine x = CHECKS.told("line 12;");
        Checks.typed(x, "line 123;hands 01;");
        CHECKS.due("hands as long as the earlier line", x.tells(), -10 - 15);
    }

    // "a HAND for each tick, of rests not looked at"
    private static void handsOfRests() {
        String due = "0/-9 1/1 0/-9 wait 2 reach 2 bar 4";
        for (String hands : new String[] {"010", "110", "011", "111"}) {
            CHECKS.tells("line 010;hands " + hands + ";", 2, due);
        }
    }

    // "wait N, reach N, bar N (each told again: the later)"
    private static void numbersAgain() {
        CHECKS.tells("wait 1;wait 5;line 1;", 3, "1/0 wait 5 reach 2 bar 4");
        CHECKS.tells("wait 5;line 1;wait 1;", 3, "1/0 wait 1 reach 2 bar 4");
        CHECKS.tells("line 1;reach 6;reach 0;", 3, "1/0 wait 2 reach 0 bar 4");
        CHECKS.tells("reach 0;reach 6;line 1;", 3, "1/0 wait 2 reach 6 bar 4");
        CHECKS.tells("line 1;bar 2;bar 6;bar 3;", 4, "1/0 wait 2 reach 2 bar 3");
        CHECKS.fault("line 1;wait 1;wait 6;", 19);
    }

    // "an N that has not just one figure or is not as told, too"
    private static void numbersOfNotOneFigure() {
        for (String word : new String[] {"wait", "reach", "bar"}) {
            String text = "line 1;" + word;
            CHECKS.fault(text + ";", text.length());
            CHECKS.fault(text + " ;", text.length() + 1);
            CHECKS.fault(text + " 03;", text.length() + 1);
            CHECKS.fault(text + " 30;", text.length() + 1);
            CHECKS.fault(text + " 33;", text.length() + 1);
            CHECKS.fault(text + " 333333333333;", text.length() + 1);
            CHECKS.due(text, CHECKS.told(text + " 3;").count(0), 1);
        }
    }

    // "the first TOKEN that can't stand there"
    private static void tokensOutOfPlace() {
        CHECKS.fault(";", 0);
        CHECKS.fault("1", 0);
        CHECKS.fault("line line", 5);
        CHECKS.fault("line hands", 5);
        CHECKS.fault("line wait 1;", 5);
        CHECKS.fault("line 1 wait 1;", 7);
        CHECKS.fault("line 1;;", 7);
        CHECKS.fault("line 1; ;", 8);
        CHECKS.fault("line 1;1;", 7);
        CHECKS.fault("line 1;wait ;", 12);
        CHECKS.fault("line 1;wait wait 1;", 12);
        CHECKS.fault("line 1;hands wait 1;", 13);
    }

    // "the first TOKEN": whatever comes behind it
    private static void firstFaultCounts() {
        CHECKS.fault("line 8;line 9;", 5);
        CHECKS.fault("line 1;wait 9;xyz", 12);
        CHECKS.fault("line 1 A", 7);
        CHECKS.fault("A line 1;", 0);
        CHECKS.fault("wait 1;bar 1", 11);
        CHECKS.fault("wait 0", 5);
        CHECKS.fault("line 12;hands 0", 14);
    }

    // "the text's length, if it ends too early": each beginning of a text
    private static void endsTooEarly() {
        String text = " line 12 ; hands 01;bar 3 ;";
        // By the text's length: the place of the FAULT; below 0, where it is told, how many ITEMS.
        int[] ends = {
            0, 1, 1, 1, 1, 5, 6, 7, 8, 9,
            -1, -1, 11, 11, 11, 11, 16, 17, 17, 19,
            -2, 20, 20, 23, 24, 25, 26, -3};
        for (int many = 0; many < ends.length; many++) {
            SharedLine x = Checks.typed(new SharedLine(), text.substring(0, many));
            int due = ends[many] < 0 ? -ends[many] : -10 - ends[many];
            CHECKS.due("tells() of the first " + many, x.tells(), due);
        }
        CHECKS.due("all of it", text.length(), ends.length - 1);
    }

    // "(also without line)"
    private static void endsWithoutLine() {
        CHECKS.fault("", 0);
        CHECKS.fault(" ", 1);
        CHECKS.fault("wait 1;", 7);
        CHECKS.fault("wait 1;reach 1;bar 2;", 21);
        CHECKS.fault("wait 1;  ", 9);
        // The line told earlier does not stand for it.
        SharedLine x = CHECKS.told("line 1;");
        Checks.typed(x, "wait 1;");
        CHECKS.due("without line", x.tells(), -17);
        CHECKS.due("WAIT stays", x.count(2), 2);
    }
}
