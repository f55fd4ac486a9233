import java.util.NoSuchElementException;

/** What the tests have in common: how a group is made, and what is seen of it. */
final class Lifts {
    static final Class<IllegalArgumentException> ARGUMENT = IllegalArgumentException.class;
    static final Class<IllegalStateException> STATE = IllegalStateException.class;
    static final Class<UnsupportedOperationException> UNSUPPORTED = UnsupportedOperationException.class;
    static final Class<NoSuchElementException> NO_SUCH = NoSuchElementException.class;
    static final Class<IndexOutOfBoundsException> INDEX = IndexOutOfBoundsException.class;

    private Lifts() {
    }

    static LiftGroup built(int floors, int cars, int places) {
        LiftGroup x = new LiftGroup();
        x.building(floors, cars, places);
        return x;
    }

    /** One car with two places, which has brought rider 0 there and rests, closed, direction none. */
    static LiftGroup atFloor(int floor, int floors) {
        LiftGroup x = built(floors, 1, 2);
        x.call(0, floor);
        x.step(23 + 2 * floor);
        carIs("at rest", x, 0, 2 * floor, 0, 0, 0);
        return x;
    }

    /** Height, direction, door, left. */
    static void carIs(String when, LiftGroup x, int car, int height, int direction, int door, int left) {
        String got = x.car(car, 0) + " " + x.car(car, 1) + " " + x.car(car, 2) + " " + x.car(car, 3);
        Check.same(when + ": car " + car, got, height + " " + direction + " " + door + " " + left);
    }

    /** State and car. */
    static void riderIs(String when, LiftGroup x, int rider, int state, int car) {
        Check.same(when + ": rider " + rider, x.rider(rider, 0) + " " + x.rider(rider, 1), state + " " + car);
    }

    /** Step, kind, rider, car. */
    static void eventIs(LiftGroup x, int i, int step, int kind, int rider, int car) {
        String got = x.event(i, 0) + " " + x.event(i, 1) + " " + x.event(i, 2) + " " + x.event(i, 3);
        Check.same("event " + i, got, step + " " + kind + " " + rider + " " + car);
    }

    static void aboutIs(String when, LiftGroup x, String due) {
        StringBuilder got = new StringBuilder();
        for (int what = 0; what < 6; what++) {
            got.append(what == 0 ? "" : " ").append(x.about(what));
        }
        Check.same(when + ": about", got.toString(), due);
    }

    static void stopsAre(String when, LiftGroup x, int car, String due) {
        StringBuilder got = new StringBuilder();
        for (int f = 0; f < due.length(); f++) {
            got.append(x.stop(car, f) ? '1' : '0');
        }
        Check.same(when + ": stops", got.toString(), due);
    }

    /** Every answer that can be had, so that two groups can be told apart. */
    static String seen(LiftGroup x) {
        StringBuilder s = new StringBuilder();
        row(s, "about", (a, b) -> x.about(b), 0, 6);
        for (int c = 0; c < 5; c++) {
            row(s, "car", x::car, c, 6);
            row(s, "stop", (a, b) -> x.stop(a, b) ? 1 : 0, c, 11);
            row(s, "worst", (a, b) -> x.worst(a), c, 1);
        }
        for (int r = 0; r < 25; r++) {
            row(s, "rider", x::rider, r, 5);
            row(s, "promise", (a, b) -> x.promise(a), r, 1);
        }
        for (int i = 0; i < 31; i++) {
            row(s, "event", x::event, i, 4);
        }
        return s.toString();
    }

    private interface Asked {
        int answer(int a, int b);
    }

    private static void row(StringBuilder s, String name, Asked asked, int a, int columns) {
        s.append(' ').append(name).append(' ').append(a);
        for (int b = 0; b < columns; b++) {
            int column = b;
            s.append(' ').append(Check.answerOf(() -> asked.answer(a, column)));
        }
    }
}
