import java.util.ArrayList;
import java.util.List;
import java.util.function.Supplier;
import java.util.function.ToIntFunction;

/**
 * "Refused, and nothing changes, the first of these that is so: BAD ..., STATE ..., FULL": each
 * call that is refused, on objects that hold little, much and all that they can. Two objects are
 * made alike, one has the refused call too, then all that they hold is drawn out of both.
 */
public final class RefusedTest {
    private static final Checks CHECKS = new Checks();
    private static final int BAD = SharedLine.BAD, STATE = SharedLine.STATE, FULL = SharedLine.FULL;
    private static final int NONE = SharedLine.NONE, NO = SharedLine.NO, NOT = SharedLine.NOT;

    /** A call, and what it answers. */
    private record Call(String name, ToIntFunction<SharedLine> made, int due) {
    }

    public static void main(String[] args) {
        holdTheSame("new", SharedLine::new, both(badEverywhere(), refusedOfNew()));
        holdTheSame("some", RefusedTest::some, both(badEverywhere(), refusedOfSome()));
        holdTheSame("full", RefusedTest::full, both(badEverywhere(), refusedOfFull()));
        holdTheSame("hopeless", RefusedTest::hopeless, both(badEverywhere(), refusedOfHopeless()));
        faultsChangeNothing();
        askingChangesNothing("new", SharedLine::new);
        askingChangesNothing("some", RefusedTest::some);
        askingChangesNothing("full", RefusedTest::full);
        askingChangesNothing("hopeless", RefusedTest::hopeless);
        changesAreSeen();
        CHECKS.end();
    }

    /** Rests and NOTES of both HANDS, LAWFUL; a text, IMAGE 1, something SEEN, some deeds. */
    private static SharedLine some() {
        SharedLine x = Checks.typed(new SharedLine(), "line 1020304;hands 1010101;wait 2;bar 6;");
        x.tells();
        x.keep(1);
        x.gives(4, 0);
        x.sets(1, 4);
        x.gives(2, 0);
        x.undo();
        x.sees(0, 1);
        x.sees(6, 1);
        return Checks.typed(x, "line 70; hands 11;");
    }

    /** 120 letters, 6 SEEN, 6 to be UNDONE, both IMAGES, 12 NOTES that are not LAWFUL. */
    private static SharedLine full() {
        SharedLine x = Checks.typed(new SharedLine(), "line 7;wait 5;");
        x.tells();
        x.keep(0);
        Checks.typed(x, "line 123456712345;wait 1;reach 6;").tells();
        x.keep(1);
        for (int t = 0; t < 6; t++) {
            x.gives(t, 1);
            x.sees(t, 1);
        }
        x.sets(0, 2);
        return Checks.typed(x, "line 4321;" + " ".repeat(104) + "bar 2;");
    }

    /** No SHARE is LAWFUL, so no TABLE is. */
    private static SharedLine hopeless() {
        SharedLine x = Checks.typed(new SharedLine(), "line 0147;hands 0010;wait 1;reach 1;");
        x.tells();
        return x;
    }

    private static List<Call> both(List<Call> one, List<Call> other) {
        List<Call> all = new ArrayList<>(one);
        all.addAll(other);
        return all;
    }

    /** BAD whatever the object holds: also where STATE or FULL is so, or there is none. */
    private static List<Call> badEverywhere() {
        List<Call> calls = new ArrayList<>(List.of(
                new Call("type(-1)", x -> x.type(-1), BAD),
                new Call("type(256)", x -> x.type(256), BAD),
                new Call("gives(-1, 0)", x -> x.gives(-1, 0), BAD),
                new Call("gives(12, 0)", x -> x.gives(12, 0), BAD),
                new Call("gives(0, -1)", x -> x.gives(0, -1), BAD),
                new Call("gives(0, 2)", x -> x.gives(0, 2), BAD),
                new Call("flips(-1, 0)", x -> x.flips(-1, 0), BAD),
                new Call("flips(0, 12)", x -> x.flips(0, 12), BAD),
                new Call("flips(12, 12)", x -> x.flips(12, 12), BAD),
                new Call("flips(1, 0)", x -> x.flips(1, 0), BAD),
                new Call("keep(-1)", x -> x.keep(-1), BAD),
                new Call("keep(2)", x -> x.keep(2), BAD),
                new Call("back(-1)", x -> x.back(-1), BAD),
                new Call("back(2)", x -> x.back(2), BAD),
                new Call("sees(-1, 0)", x -> x.sees(-1, 0), BAD),
                new Call("sees(12, 0)", x -> x.sees(12, 0), BAD),
                new Call("sees(0, -1)", x -> x.sees(0, -1), BAD),
                new Call("sees(0, 2)", x -> x.sees(0, 2), BAD),
                new Call("tick(-1, 0)", x -> x.tick(-1, 0), BAD),
                new Call("tick(12, 0)", x -> x.tick(12, 0), BAD),
                new Call("tick(0, -1)", x -> x.tick(0, -1), BAD),
                new Call("tick(0, 4)", x -> x.tick(0, 4), BAD)));
        int[][] numbers = {{0, 0}, {0, 6}, {1, -1}, {1, 7}, {2, 1}, {2, 7}, {-1, 2}, {3, 2}};
        for (int[] n : numbers) {
            calls.add(new Call("sets(" + n[0] + ", " + n[1] + ")", x -> x.sets(n[0], n[1]), BAD));
        }
        calls.addAll(badAsked());
        return calls;
    }

    private static List<Call> badAsked() {
        return List.of(
                new Call("share(-1)", x -> x.share(-1), NO),
                new Call("share(5)", x -> x.share(5), NO),
                new Call("best(-1)", x -> x.best(-1), NO),
                new Call("best(3)", x -> x.best(3), NO),
                new Call("busiest(-1, 0)", x -> x.busiest(-1, 0), BAD),
                new Call("busiest(2, 0)", x -> x.busiest(2, 0), BAD),
                new Call("busiest(0, -1)", x -> x.busiest(0, -1), BAD),
                new Call("busiest(0, 2)", x -> x.busiest(0, 2), BAD),
                new Call("tables(-1)", x -> x.tables(-1), BAD),
                new Call("tables(2)", x -> x.tables(2), BAD),
                new Call("which(-1)", x -> x.which(-1), BAD),
                new Call("which(2)", x -> x.which(2), BAD),
                new Call("count(-1)", x -> x.count(-1), BAD),
                new Call("count(8)", x -> x.count(8), BAD));
    }

    private static List<Call> refusedOfNew() {
        return List.of(
                new Call("gives(0, 0)", x -> x.gives(0, 0), BAD),
                new Call("gives(0, 1)", x -> x.gives(0, 1), BAD),
                new Call("flips(0, 0)", x -> x.flips(0, 0), STATE),
                new Call("flips(0, 1)", x -> x.flips(0, 1), BAD),
                new Call("mends()", x -> x.mends(), STATE),
                new Call("sets(0, 2)", x -> x.sets(0, 2), STATE),
                new Call("sets(1, 2)", x -> x.sets(1, 2), STATE),
                new Call("sets(2, 4)", x -> x.sets(2, 4), STATE),
                new Call("undo()", x -> x.undo(), STATE),
                new Call("tells()", x -> x.tells(), -10),
                new Call("back(0)", x -> x.back(0), STATE),
                new Call("back(1)", x -> x.back(1), STATE));
    }

    private static List<Call> refusedOfSome() {
        return List.of(
                new Call("gives(0, 1)", x -> x.gives(0, 1), STATE),
                new Call("gives(4, 0)", x -> x.gives(4, 0), STATE),
                new Call("gives(1, 0)", x -> x.gives(1, 0), BAD),
                new Call("gives(7, 0)", x -> x.gives(7, 0), BAD),
                new Call("flips(5, 5)", x -> x.flips(5, 5), STATE),
                new Call("flips(5, 7)", x -> x.flips(5, 7), BAD),
                new Call("flips(3, 1)", x -> x.flips(3, 1), BAD),
                new Call("mends()", x -> x.mends(), STATE),
                new Call("sets(0, 2)", x -> x.sets(0, 2), STATE),
                new Call("sets(1, 4)", x -> x.sets(1, 4), STATE),
                new Call("sets(2, 6)", x -> x.sets(2, 6), STATE),
                new Call("back(0)", x -> x.back(0), STATE));
    }

    private static List<Call> refusedOfFull() {
        return List.of(
                new Call("type(0)", x -> x.type(0), FULL),
                new Call("type(';')", x -> x.type(';'), FULL),
                new Call("type(255)", x -> x.type(255), FULL),
                new Call("sees(0, 0)", x -> x.sees(0, 0), FULL),
                new Call("sees(0, 1)", x -> x.sees(0, 1), FULL),
                new Call("sees(6, 0)", x -> x.sees(6, 0), FULL),
                new Call("sees(11, 1)", x -> x.sees(11, 1), FULL),
                new Call("gives(5, 1)", x -> x.gives(5, 1), STATE),
                new Call("gives(6, 0)", x -> x.gives(6, 0), STATE),
                new Call("sets(0, 2)", x -> x.sets(0, 2), STATE),
                new Call("flips(11, 0)", x -> x.flips(11, 0), BAD));
    }

    private static List<Call> refusedOfHopeless() {
        return List.of(
                new Call("mends()", x -> x.mends(), STATE),
                new Call("change()", x -> x.change(), NONE),
                new Call("slowest()", x -> x.slowest(), NONE),
                new Call("best(0)", x -> x.best(0), NOT),
                new Call("best(1)", x -> x.best(1), NOT),
                new Call("best(2)", x -> x.best(2), NOT),
                new Call("tables(1)", x -> x.tables(1), NONE),
                new Call("which(1)", x -> x.which(1), NONE),
                new Call("listen()", x -> x.listen(), NONE),
                new Call("tells()", x -> x.tells(), -10),
                new Call("flips(0, 0)", x -> x.flips(0, 0), STATE));
    }

    private static void holdTheSame(String kind, Supplier<SharedLine> maker, List<Call> calls) {
        String due = Checks.drainedOf(maker.get());
        for (Call call : calls) {
            SharedLine x = maker.get();
            CHECKS.due(call.name + " of " + kind, call.made.applyAsInt(x), call.due);
            CHECKS.same("behind " + call.name + " of " + kind, Checks.drainedOf(x), due);
            // Refused once more, by the same words.
            SharedLine again = maker.get();
            call.made.applyAsInt(again);
            CHECKS.due(call.name + " of " + kind + " again", call.made.applyAsInt(again), call.due);
        }
    }

    // "-10 less FAULT: nothing changes, THE TEXT stays."
    private static void faultsChangeNothing() {
        faultChangesNothing("", 0);
        faultChangesNothing("line 8;", 5);
        faultChangesNothing("line 5;line 6;", 7);
        faultChangesNothing("wait 1;reach 1;bar 2;", 21);
        faultChangesNothing("line 123;hands 12;", 15);
        faultChangesNothing("line 55;hands 11;hands 00;", 17);
        faultChangesNothing("line 77;hands 01;wait 1;bar 2", 29);
        faultChangesNothing("line 5;hands 1;wait 1;reach 0;bar 9;", 34);
        SharedLine x = Checks.typed(some(), "x");
        CHECKS.due("at fault", x.tells(), -10 - 18);
        CHECKS.due("its letters can still be cleared", x.clear(), 19);
        Checks.typed(x, "line 5;hands 1");
        CHECKS.due("too early", x.tells(), -10 - 14);
        CHECKS.due("a letter more", x.type(';'), 15);
        CHECKS.due("told whole", x.tells(), 2);
    }

    private static void faultChangesNothing(String text, int place) {
        Supplier<SharedLine> maker = () -> {
            SharedLine x = some();
            x.clear();
            return Checks.typed(x, text);
        };
        List<Call> calls = List.of(new Call("tells()", x -> x.tells(), -10 - place));
        holdTheSame("'" + text + "'", maker, calls);
    }

    // "(Nothing is changed.)"
    private static void askingChangesNothing(String kind, Supplier<SharedLine> maker) {
        String due = Checks.drainedOf(maker.get());
        SharedLine x = maker.get();
        String first = answers(x);
        CHECKS.same("asked again of " + kind, answers(x), first);
        CHECKS.same("asked, " + kind, Checks.drainedOf(x), due);
    }

    private static String answers(SharedLine x) {
        StringBuilder all = new StringBuilder();
        for (int what = 0; what < 3; what++) {
            all.append(x.share(what)).append(' ').append(x.best(what)).append(' ');
            all.append(x.tables(what)).append(' ').append(x.which(what)).append(' ');
            all.append(x.busiest(0, what)).append(' ').append(x.busiest(1, what)).append(' ');
            all.append(x.tick(what, 2)).append(' ').append(x.tick(what, 3)).append(' ');
        }
        all.append(x.share(3)).append(' ').append(x.share(4)).append(' ');
        all.append(x.slowest()).append(' ').append(x.change()).append(' ').append(x.listen());
        return all.toString();
    }

    /** What is drawn out of an object tells of every kind of change, or all above would be idle. */
    private static void changesAreSeen() {
        List<Call> calls = List.of(
                new Call("clear()", x -> x.clear(), 18),
                new Call("type(' ')", x -> x.type(' '), 19),
                new Call("tells()", x -> x.tells(), 2),
                new Call("gives(0, 0)", x -> x.gives(0, 0), 2),
                new Call("flips(0, 6)", x -> x.flips(0, 6), 4),
                new Call("sets(0, 1)", x -> x.sets(0, 1), 2),
                new Call("undo()", x -> x.undo(), 2),
                new Call("sees(2, 0)", x -> x.sees(2, 0), 3),
                new Call("forget()", x -> x.forget(), 2),
                new Call("keep(0)", x -> x.keep(0), 7),
                new Call("keep(1)", x -> x.keep(1), 7),
                new Call("back(1)", x -> x.back(1), 7));
        String was = Checks.drainedOf(some());
        for (Call call : calls) {
            SharedLine x = some();
            CHECKS.due(call.name + " of some", call.made.applyAsInt(x), call.due);
            CHECKS.isTrue(call.name + " is seen", !Checks.drainedOf(x).equals(was));
        }
    }
}
