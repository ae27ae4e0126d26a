import java.util.Random;

/** All promises: long runs of calls, the class and the plain reading of the document side by side. */
public final class SideBySideTest {
    private static final int RUNS = 400;
    private static final int CALLS = 512;
    private static final int[] ODD = {
        Integer.MIN_VALUE, -1000000, -32, -9, -2, -1, 7, 8, 12, 13, 31, 32, 33, 64, 255, 256,
        Integer.MAX_VALUE};

    private static final int TYPE = 0, CLEAR = 1, TELLS = 2;
    private static final int GIVES = 3, FLIPS = 4, MENDS = 5, SETS = 6, UNDO = 7;
    private static final int TICK = 8, SHARE = 9;
    private static final int BEST = 10, SLOWEST = 11, CHANGE = 12, BUSIEST = 13, TABLES = 14;
    private static final int SEES = 15, FORGET = 16, WHICH = 17, LISTEN = 18;
    private static final int KEEP = 19, BACK = 20, COUNT = 21;
    private static final int KINDS = COUNT + 1;

    private final Checks checks;
    private final Random random;
    private final SharedLine x = new SharedLine();
    private final PlainLine y = new PlainLine();
    private final int run;
    private int calls = 0;

    private SideBySideTest(Checks checks, int run) {
        this.checks = checks;
        this.run = run;
        this.random = new Random(run);
    }

    public static void main(String[] args) {
        Checks checks = new Checks();
        for (int run = 0; run < RUNS; run++) {
            new SideBySideTest(checks, run).go();
        }
        checks.end();
    }

    private void go() {
        while (calls < CALLS) {
            if (random.nextInt(12) == 0) {
                tellText(random.nextInt(3) == 0 ? spoilt(someText()) : someText());
                if (random.nextInt(3) == 0) {
                    lookAtAll();
                }
                if (random.nextInt(3) == 0) {
                    hearSome();
                }
            } else {
                call(random.nextInt(KINDS), number(), number());
            }
        }
    }

    private int number() {
        return random.nextInt(20) == 0 ? ODD[random.nextInt(ODD.length)]
                : random.nextInt(random.nextBoolean() ? 3 : 12);
    }

    private void tellText(String text) {
        if (random.nextInt(4) != 0) {
            call(CLEAR, 0, 0);
        }
        for (int i = 0; i < text.length(); i++) {
            call(TYPE, text.charAt(i), 0);
        }
        call(TELLS, 0, 0);
    }

    private void lookAtAll() {
        for (int t = 0; t < 12; t++) {
            for (int what = 0; what < 4; what++) {
                call(TICK, t, what);
            }
        }
        for (int what = 0; what < 5; what++) {
            call(SHARE, what, 0);
            call(BEST, what, 0);
            call(BUSIEST, what & 1, what >> 1);
        }
        call(SLOWEST, 0, 0);
        call(CHANGE, 0, 0);
    }

    /** Random calls alone hardly ever leave an uneven few of TABLES. */
    private void hearSome() {
        call(FORGET, 0, 0);
        for (int i = 0; i < 6; i++) {
            call(WHICH, 0, 0);
            call(WHICH, 1, 0);
            call(LISTEN, 0, 0);
            call(SEES, random.nextInt(12), random.nextInt(2));
        }
        call(FORGET, 0, 0);
    }

    private String blanks(int least) {
        return " ".repeat(least + (random.nextInt(4) == 0 ? random.nextInt(3) : 0));
    }

    private String someText() {
        StringBuilder text = new StringBuilder(blanks(0));
        int ticks = 1 + random.nextInt(12);
        int rests = random.nextInt(6);
        int pitches = 1 + random.nextInt(7);
        StringBuilder line = new StringBuilder();
        StringBuilder hands = new StringBuilder();
        for (int t = 0; t < ticks; t++) {
            line.append(random.nextInt(12) < rests ? 0 : 1 + random.nextInt(pitches));
            hands.append(random.nextInt(2));
        }
        someNumbers(text);
        item(text, "line", line.toString());
        someNumbers(text);
        if (random.nextInt(3) != 0) {
            item(text, "hands", hands.toString());
        }
        someNumbers(text);
        return text.toString();
    }

    private void someNumbers(StringBuilder text) {
        if (random.nextInt(3) == 0) {
            item(text, "wait", "" + (1 + random.nextInt(random.nextBoolean() ? 2 : 5)));
        }
        if (random.nextInt(3) == 0) {
            item(text, "reach", "" + random.nextInt(7));
        }
        if (random.nextInt(3) == 0) {
            item(text, "bar", "" + (2 + random.nextInt(5)));
        }
    }

    private void item(StringBuilder text, String word, String figures) {
        text.append(word).append(blanks(random.nextInt(2))).append(figures);
        text.append(blanks(0)).append(';').append(blanks(0));
    }

    private String spoilt(String text) {
        StringBuilder spoilt = new StringBuilder(text);
        String letters = "; 0123456789linehandswaitreachbarZ{`/:" + (char) 0 + (char) 255 + '\n';
        for (int i = random.nextInt(3); i >= 0 && spoilt.length() > 0; i--) {
            int place = random.nextInt(spoilt.length());
            char letter = letters.charAt(random.nextInt(letters.length()));
            switch (random.nextInt(4)) {
                case 0: spoilt.setCharAt(place, letter); break;
                case 1: spoilt.insert(place, letter); break;
                case 2: spoilt.deleteCharAt(place); break;
                default: spoilt.setLength(place); break;
            }
        }
        return spoilt.toString();
    }

    private void call(int kind, int a, int b) {
        if (calls >= CALLS) {
            return;
        }
        calls++;
        String name = "run " + run + ", call " + calls + ": ";
        String one = "(" + a + ")";
        String two = "(" + a + ", " + b + ")";
        switch (kind) {
            case TYPE: checks.due(name + "type" + one, x.type(a), y.type(a)); break;
            case CLEAR: checks.due(name + "clear()", x.clear(), y.clear()); break;
            case TELLS: checks.due(name + "tells()", x.tells(), y.tells()); break;
            case GIVES: checks.due(name + "gives" + two, x.gives(a, b), y.gives(a, b)); break;
            case FLIPS: checks.due(name + "flips" + two, x.flips(a, b), y.flips(a, b)); break;
            case MENDS: checks.due(name + "mends()", x.mends(), y.mends()); break;
            case SETS: checks.due(name + "sets" + two, x.sets(a, b), y.sets(a, b)); break;
            case UNDO: checks.due(name + "undo()", x.undo(), y.undo()); break;
            case TICK: checks.due(name + "tick" + two, x.tick(a, b), y.tick(a, b)); break;
            case SHARE: checks.due(name + "share" + one, x.share(a), y.share(a)); break;
            case BEST: checks.due(name + "best" + one, x.best(a), y.best(a)); break;
            case SLOWEST: checks.due(name + "slowest()", x.slowest(), y.slowest()); break;
            case CHANGE: checks.due(name + "change()", x.change(), y.change()); break;
            case BUSIEST: checks.due(name + "busiest" + two, x.busiest(a, b), y.busiest(a, b)); break;
            case TABLES: checks.due(name + "tables" + one, x.tables(a), y.tables(a)); break;
            case SEES: checks.due(name + "sees" + two, x.sees(a, b), y.sees(a, b)); break;
            case FORGET: checks.due(name + "forget()", x.forget(), y.forget()); break;
            case WHICH: checks.due(name + "which" + one, x.which(a), y.which(a)); break;
            case LISTEN: checks.due(name + "listen()", x.listen(), y.listen()); break;
            case KEEP: checks.due(name + "keep" + one, x.keep(a), y.keep(a)); break;
            case BACK: checks.due(name + "back" + one, x.back(a), y.back(a)); break;
            case COUNT: checks.due(name + "count" + one, x.count(a), y.count(a)); break;
            default: checks.isTrue(name + "a call of kind " + kind, false); break;
        }
    }
}
