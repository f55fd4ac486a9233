import java.util.ArrayList;
import java.util.List;
import java.util.function.Consumer;
import java.util.function.Supplier;

/**
 * "A call that throws changes nothing": every call that the document refuses, in every kind of
 * state, on one of two groups that were made alike; they must be seen alike then and later on.
 */
public final class RefusedTest {
    private static final int LEAST = Integer.MIN_VALUE;
    private static final int GREATEST = Integer.MAX_VALUE;

    /** A state, and the numbers that its limits hang on; usable tells whether a car is. */
    private record State(String name, int floors, int cars, boolean usable, Supplier<LiftGroup> made) {
    }

    private record Refusal(String name, Class<? extends Exception> due, Consumer<LiftGroup> call) {
    }

    private final State state;
    private final List<Refusal> refusals = new ArrayList<>();

    private RefusedTest(State state) {
        this.state = state;
    }

    public static void main(String[] args) {
        Check.sentence("A call that throws changes nothing");
        for (State state : states()) {
            new RefusedTest(state).run();
        }
        Check.end("RefusedTest");
    }

    private static List<State> states() {
        return List.of(
                new State("new", 2, 1, true, LiftGroup::new),
                new State("busy", 6, 2, true, RefusedTest::busy),
                new State("held open", 4, 1, true, RefusedTest::heldOpen),
                new State("the most of all", 10, 4, true, RefusedTest::most),
                new State("recall", 6, 2, false, () -> then(busy(), x -> x.recall(true))),
                new State("none usable", 6, 2, false, RefusedTest::noneUsable),
                new State("24 riders, recall", 10, 4, false, () -> then(most(), x -> x.recall(true))));
    }

    private static LiftGroup then(LiftGroup x, Consumer<LiftGroup> deed) {
        deed.accept(x);
        return x;
    }

    private static LiftGroup busy() {
        LiftGroup x = Lifts.built(6, 2, 2);
        x.call(0, 1);
        x.step(20);
        x.call(3, 5);
        x.call(0, 4);
        x.call(0, 4);
        x.call(0, 2);
        x.step(12);
        x.call(5, 0);
        x.curtain(1, true);
        return x;
    }

    private static LiftGroup heldOpen() {
        LiftGroup x = Lifts.built(4, 1, 2);
        x.curtain(0, true);
        x.call(0, 3);
        x.call(2, 0);
        x.step(4 + 15);
        return x;
    }

    private static LiftGroup most() {
        LiftGroup x = Lifts.built(10, 4, 5);
        for (int r = 0; r < 24; r++) {
            x.call(r % 10, (r * 7 + 3) % 10 == r % 10 ? (r + 1) % 10 : (r * 7 + 3) % 10);
        }
        x.step(40);
        return x;
    }

    private static LiftGroup noneUsable() {
        LiftGroup x = busy();
        x.lock(0, true);
        x.fail(1, true);
        return x;
    }

    private void run() {
        LiftGroup x = state.made().get();
        askingChangesNothing();
        refuseBuildings();
        refuseCalls(x.about(1) == 24);
        refuseSteps();
        refuseCars();
        refuseRiders(x.about(1));
        refuseEvents(Math.min(30, x.about(2)));
        String due = seenNowAndLater(state.made().get());
        for (Refusal r : refusals) {
            LiftGroup one = state.made().get();
            String what = state.name() + ": " + r.name();
            Check.refused(what, r.due(), () -> r.call().accept(one));
            Check.same(what + ", seen then and later, is changed", seenNowAndLater(one).equals(due) ? 0 : 1, 0);
        }
    }

    private void askingChangesNothing() {
        LiftGroup asked = state.made().get();
        LiftGroup twin = state.made().get();
        for (int i = 0; i < 50; i++) {
            Lifts.seen(asked);
            asked.step(1);
            twin.step(1);
        }
        Check.same(state.name() + ": asked and not", Lifts.seen(asked), Lifts.seen(twin));
    }

    /** Goes on for a while, so that what cannot be asked for shows too. */
    private static String seenNowAndLater(LiftGroup x) {
        StringBuilder s = new StringBuilder(Lifts.seen(x));
        for (int i = 0; i < 6; i++) {
            x.step(1);
            s.append(Lifts.seen(x));
        }
        x.recall(true);
        x.step(7);
        s.append(Lifts.seen(x));
        x.recall(false);
        s.append(Check.answerOf(() -> x.call(1, 0)));
        x.fail(0, true);
        x.step(9);
        x.fail(0, false);
        x.lock(0, false);
        s.append(Lifts.seen(x));
        x.step(200);
        return s.append(Lifts.seen(x)).toString();
    }

    private void refuse(String name, Class<? extends Exception> due, Consumer<LiftGroup> call) {
        refusals.add(new Refusal(name, due, call));
    }

    private void refuseBuildings() {
        int[][] wrong = {{LEAST, 1, 1}, {0, 1, 1}, {1, 4, 5}, {11, 4, 5}, {GREATEST, 1, 1}, {2, LEAST, 1}, {2, 0, 1},
            {10, 5, 5}, {2, GREATEST, 1}, {2, 1, LEAST}, {2, 1, 0}, {10, 4, 6}, {2, 1, GREATEST}, {1, 0, 0}};
        for (int[] w : wrong) {
            refuse("building " + w[0] + " " + w[1] + " " + w[2], Lifts.ARGUMENT, x -> x.building(w[0], w[1], w[2]));
        }
    }

    private void refuseCalls(boolean full) {
        int top = state.floors() - 1;
        int[][] wrong = {{LEAST, 0}, {-1, 0}, {top + 1, 0}, {GREATEST, 0}, {0, LEAST}, {0, -1}, {0, top + 1},
            {0, GREATEST}, {0, 0}, {top, top}, {-1, -1}, {top + 1, top + 1}};
        for (int[] w : wrong) {
            refuse("call " + w[0] + " " + w[1], Lifts.ARGUMENT, x -> x.call(w[0], w[1]));
        }
        if (!state.usable()) {
            refuse("call with no car usable", Lifts.STATE, x -> x.call(0, top));
        } else if (full) {
            refuse("call of a 25th rider", Lifts.UNSUPPORTED, x -> x.call(0, top));
        }
    }

    private void refuseSteps() {
        int[] wrong = {LEAST, -1, 201, GREATEST};
        for (int n : wrong) {
            refuse("step " + n, Lifts.ARGUMENT, x -> x.step(n));
        }
    }

    private void refuseCars() {
        int[] wrong = {LEAST, -1, state.cars(), state.cars() + 1, GREATEST};
        for (int c : wrong) {
            refuse("curtain " + c + " broken", Lifts.NO_SUCH, x -> x.curtain(c, true));
            refuse("curtain " + c + " whole", Lifts.NO_SUCH, x -> x.curtain(c, false));
            refuse("lock " + c + " on", Lifts.NO_SUCH, x -> x.lock(c, true));
            refuse("lock " + c + " off", Lifts.NO_SUCH, x -> x.lock(c, false));
            refuse("fail " + c + " on", Lifts.NO_SUCH, x -> x.fail(c, true));
            refuse("fail " + c + " off", Lifts.NO_SUCH, x -> x.fail(c, false));
            refuse("car " + c + " 0", Lifts.NO_SUCH, x -> x.car(c, 0));
            refuse("stop " + c + " 0", Lifts.NO_SUCH, x -> x.stop(c, 0));
            refuse("worst " + c, Lifts.NO_SUCH, x -> x.worst(c));
        }
        int last = state.cars() - 1;
        int[] whats = {LEAST, -1, 6, GREATEST};
        for (int what : whats) {
            refuse("car " + last + " " + what, Lifts.ARGUMENT, x -> x.car(last, what));
        }
        int[] floors = {LEAST, -1, state.floors(), GREATEST};
        for (int floor : floors) {
            refuse("stop " + last + " " + floor, Lifts.ARGUMENT, x -> x.stop(last, floor));
        }
    }

    private void refuseRiders(int riders) {
        int[] wrong = {LEAST, -1, riders, riders + 1, GREATEST};
        for (int r : wrong) {
            refuse("rider " + r + " 0", Lifts.NO_SUCH, x -> x.rider(r, 0));
            refuse("promise " + r, Lifts.NO_SUCH, x -> x.promise(r));
        }
        int[] whats = {LEAST, -1, 5, GREATEST};
        for (int what : whats) {
            if (riders > 0) {
                refuse("rider " + (riders - 1) + " " + what, Lifts.ARGUMENT, x -> x.rider(riders - 1, what));
            }
        }
    }

    private void refuseEvents(int kept) {
        int[] wrong = {LEAST, -1, kept, kept + 1, GREATEST};
        for (int i : wrong) {
            refuse("event " + i + " 0", Lifts.INDEX, x -> x.event(i, 0));
        }
        int[] whats = {LEAST, -1, 4, GREATEST};
        for (int what : whats) {
            if (kept > 0) {
                refuse("event " + (kept - 1) + " " + what, Lifts.ARGUMENT, x -> x.event(kept - 1, what));
            }
        }
    }
}
