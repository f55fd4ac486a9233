/** Each sentence of promises 1 to 15 that names a boundary; what is refused is in RefusedTest. */
public final class PromisesEdgesTest {
    private static final int LEAST = Integer.MIN_VALUE;
    private static final int GREATEST = Integer.MAX_VALUE;

    public static void main(String[] args) {
        aNewObject();
        aNewBuilding();
        numbersOfABuilding();
        floorsOfACall();
        noCarUsable();
        twentyFourRiders();
        numbersOfSteps();
        curtainTwice();
        lockTwice();
        failTwice();
        recallTwice();
        carWhats();
        leftOfAClosedDoor();
        faultsOfACar();
        aboardOfACar();
        floorsOfAStop();
        riderWhats();
        carOfARider();
        stepsOfARider();
        noPromise();
        eventWhats();
        carOfAnEvent();
        aboutWhats();
        mostAndAllSteps();
        first512Calls();
        Check.end("PromisesEdgesTest");
    }

    private static void aNewObject() {
        Check.sentence("Two floors, one car with one place; the car is at floor 0, closed, direction none");
        LiftGroup x = new LiftGroup();
        Check.same("as if it were built so", Lifts.seen(x), Lifts.seen(Lifts.built(2, 1, 1)));
        Lifts.carIs("new", x, 0, 0, 0, 0, 0);
        Lifts.stopsAre("two floors", x, 0, "00");
        Check.refused("a third floor", Lifts.ARGUMENT, () -> x.stop(0, 2));
        Check.refused("a second car", Lifts.NO_SUCH, () -> x.worst(1));
        x.call(0, 1);
        x.call(0, 1);
        x.step(4);
        Check.same("one place", x.car(0, 4), 1);
    }

    private static void aNewBuilding() {
        Check.sentence("A new building, all cars at floor 0, closed, direction none; no riders, steps or events");
        String due = Lifts.seen(Lifts.built(3, 4, 2));
        LiftGroup x = Lifts.built(10, 4, 5);
        for (int r = 0; r < 24; r++) {
            x.call(r % 10, (r + 3) % 10);
        }
        x.step(60);
        x.curtain(0, true);
        x.lock(1, true);
        x.fail(2, true);
        x.recall(true);
        x.step(5);
        x.building(3, 4, 2);
        Check.same("after all that can be", Lifts.seen(x), due);
        x.building(3, 4, 2);
        Check.same("the same again", Lifts.seen(x), due);
        sameFromHereOn(x, Lifts.built(3, 4, 2));
        for (int recalled = 0; recalled < 2; recalled++) {
            LiftGroup y = Lifts.built(10, 1, 1);
            for (int r = 0; r < 24; r++) {
                y.call(r % 3, r % 3 + 1);
            }
            y.recall(recalled == 1);
            y.building(3, 4, 2);
            Check.same("after 24 that waited for a car, or for none", Lifts.seen(y), due);
            sameFromHereOn(y, Lifts.built(3, 4, 2));
        }
    }

    private static void sameFromHereOn(LiftGroup x, LiftGroup twin) {
        for (int i = 0; i < 12; i++) {
            for (LiftGroup one : new LiftGroup[] {x, twin}) {
                one.call(i % 3, (i + 1) % 3);
                one.lock(i % 4, true);
                one.recall(i % 5 == 4);
                one.step(7);
                one.recall(false);
                one.lock(i % 4, false);
            }
            Check.same("nothing is left of what was", Lifts.seen(x), Lifts.seen(twin));
        }
    }

    private static void numbersOfABuilding() {
        Check.sentence("IllegalArgumentException if a number is not as it must be");
        int[] numbers = {LEAST, -1, 0, 1, 2, 3, 4, 5, 6, 9, 10, 11, 12, GREATEST};
        LiftGroup x = new LiftGroup();
        for (int floors : numbers) {
            for (int cars : numbers) {
                for (int places : numbers) {
                    boolean right = floors >= 2 && floors <= 10 && cars >= 1 && cars <= 4 && places >= 1 && places <= 5;
                    Check.same("building " + floors + " " + cars + " " + places, Check.answerOf(() -> {
                        x.building(floors, cars, places);
                        return 0;
                    }), right ? "0" : "throws.IllegalArgumentException");
                }
            }
        }
    }

    private static void floorsOfACall() {
        Check.sentence("IllegalArgumentException if there is no such floor, or both are the same");
        int[] numbers = {LEAST, -1, 0, 1, 2, 3, 4, 5, 9, 10, GREATEST};
        for (int from : numbers) {
            for (int to : numbers) {
                LiftGroup x = Lifts.built(4, 1, 1);
                boolean right = from >= 0 && from <= 3 && to >= 0 && to <= 3 && from != to;
                Check.same("call " + from + " " + to, Check.answerOf(() -> x.call(from, to)),
                        right ? "0" : "throws.IllegalArgumentException");
                Check.same("riders", x.about(1), right ? 1 : 0);
            }
        }
    }

    private static void noCarUsable() {
        Check.sentence("IllegalStateException if no car is usable");
        for (int cars = 1; cars <= 4; cars++) {
            LiftGroup x = Lifts.built(10, cars, 5);
            for (int c = 0; c < cars; c++) {
                Check.same("the least that is usable", x.call(0, 9), c);
                x.lock(c, true);
            }
            Check.refused("none of " + cars, Lifts.STATE, () -> x.call(0, 9));
            x.lock(cars - 1, false);
            Check.same("one again", x.call(0, 9), cars - 1);
            x.recall(true);
            Check.refused("recall", Lifts.STATE, () -> x.call(0, 9));
            x.recall(false);
            Check.same("recall is over", x.call(0, 9), cars - 1);
        }
    }

    private static void twentyFourRiders() {
        Check.sentence("UnsupportedOperationException if there were 24 riders");
        LiftGroup x = Lifts.built(10, 1, 1);
        for (int r = 0; r < 23; r++) {
            x.call(0, 9);
        }
        Check.same("the 24th", x.call(0, 9), 0);
        Check.refused("the 25th", Lifts.UNSUPPORTED, () -> x.call(0, 9));
        Check.refused("again", Lifts.UNSUPPORTED, () -> x.call(0, 9));
        Check.same("riders", x.about(1), 24);
    }

    private static void numbersOfSteps() {
        Check.sentence("IllegalArgumentException if n is not 0 .. 200");
        LiftGroup x = new LiftGroup();
        x.call(0, 1);
        String before = Lifts.seen(x);
        x.step(0);
        Check.same("0", Lifts.seen(x), before);
        x.step(1);
        Check.same("1", x.about(0), 1);
        x.step(199);
        Check.same("199", x.about(0), 200);
        x.step(200);
        Check.same("200", x.about(0), 400);
        int[] wrong = {LEAST, -200, -1, 201, 256, 65536, GREATEST};
        for (int n : wrong) {
            Check.refused("step " + n, Lifts.ARGUMENT, () -> x.step(n));
        }
        Check.same("no steps", x.about(0), 400);
    }

    private static void curtainTwice() {
        Check.sentence("A curtain is broken, or whole");
        LiftGroup x = new LiftGroup();
        x.curtain(0, false);
        Check.same("whole already", x.car(0, 5), 0);
        x.curtain(0, true);
        x.call(0, 1);
        x.step(4 + 10);
        x.curtain(0, true);
        Check.same("broken already", x.car(0, 5), 4);
        x.step(10);
        Lifts.carIs("it is held no less", x, 0, 0, 0, 2, 4);
        x.step(1);
        Lifts.carIs("and no longer", x, 0, 0, 0, 2, 3);
    }

    private static void lockTwice() {
        Check.sentence("A car is locked, or no more. NoSuchElementException if there is no such car. (Nothing is done if"
                + " it is so already.)");
        LiftGroup x = Lifts.built(3, 2, 1);
        x.call(2, 0);
        sameAfter("not locked", x, () -> x.lock(0, false));
        x.lock(0, true);
        sameAfter("locked", x, () -> x.lock(0, true));
        x.lock(1, true);
        sameAfter("locked, one waits for none", x, () -> x.lock(1, true));
        x.fail(0, true);
        x.lock(0, false);
        sameAfter("not locked, but failed", x, () -> x.lock(0, false));
    }

    private static void failTwice() {
        Check.sentence("A car fails, or is repaired. NoSuchElementException if there is no such car. (Nothing is done if"
                + " it is so already.)");
        LiftGroup x = Lifts.built(3, 2, 1);
        x.call(2, 0);
        sameAfter("not failed", x, () -> x.fail(0, false));
        x.fail(0, true);
        sameAfter("failed", x, () -> x.fail(0, true));
        x.fail(1, true);
        sameAfter("failed, one waits for none", x, () -> x.fail(1, true));
        x.lock(0, true);
        x.fail(0, false);
        sameAfter("not failed, but locked", x, () -> x.fail(0, false));
    }

    private static void recallTwice() {
        Check.sentence("Recall begins, or ends. (Nothing is done if it is so already.)");
        LiftGroup x = Lifts.built(3, 1, 1);
        x.call(0, 2);
        x.call(2, 0);
        sameAfter("none", x, () -> x.recall(false));
        x.step(4);
        x.lock(0, true);
        sameAfter("none, one waits for none", x, () -> x.recall(false));
        x.recall(true);
        sameAfter("recall", x, () -> x.recall(true));
        x.step(1);
        sameAfter("recall, one was put out", x, () -> x.recall(true));
    }

    private static void sameAfter(String when, LiftGroup x, Check.Deed deed) {
        String before = Lifts.seen(x);
        deed.run();
        Check.same(when + ": nothing is done", Lifts.seen(x), before);
    }

    private static void carWhats() {
        Check.sentence("Of a car: 0 its height, 1 direction, 2 door, 3 left (0 if it is closed), 4 how many are aboard, 5 a"
                + " sum of 1 locked, 2 failed, 4 curtain broken");
        LiftGroup x = Lifts.built(3, 2, 3);
        x.call(1, 0);
        x.call(1, 0);
        x.step(2 + 11 + 2 + 2);
        x.curtain(0, true);
        int[] due = {0, -1, 1, 2, 2, 4};
        for (int what = 0; what < 6; what++) {
            Check.same("what " + what, x.car(0, what), due[what]);
            Check.same("of the other car, what " + what, x.car(1, what), 0);
        }
        int[] wrong = {LEAST, -1, 6, 32, 256, 65536, GREATEST};
        for (int what : wrong) {
            Check.refused("what " + what, Lifts.ARGUMENT, () -> x.car(0, what));
        }
    }

    private static void leftOfAClosedDoor() {
        Check.sentence("3 left (0 if it is closed)");
        LiftGroup x = new LiftGroup();
        Check.same("new", x.car(0, 3), 0);
        x.call(0, 1);
        for (int i = 0; i < 40; i++) {
            x.step(1);
            Check.same("none is left just if it is closed", x.car(0, 3) == 0 ? 1 : 0, x.car(0, 2) == 0 ? 1 : 0);
        }
        LiftGroup y = new LiftGroup();
        y.curtain(0, true);
        y.call(0, 1);
        y.step(4 + 24 + 5);
        Lifts.carIs("slow", y, 0, 0, 0, 4, 1);
        y.step(1);
        Lifts.carIs("closed", y, 0, 0, 0, 0, 0);
    }

    private static void faultsOfACar() {
        Check.sentence("5 a sum of 1 locked, 2 failed, 4 curtain broken");
        LiftGroup x = Lifts.built(2, 2, 1);
        for (int sum = 7; sum >= 0; sum--) {
            x.lock(1, (sum & 1) != 0);
            x.fail(1, (sum & 2) != 0);
            x.curtain(1, (sum & 4) != 0);
            Check.same("of car 1", x.car(1, 5), sum);
            Check.same("of car 0", x.car(0, 5), 0);
        }
        x.recall(true);
        Check.same("recall is none of them", x.car(1, 5), 0);
    }

    private static void aboardOfACar() {
        Check.sentence("4 how many are aboard");
        for (int n = 0; n <= 5; n++) {
            LiftGroup x = Lifts.built(2, 1, 5);
            for (int r = 0; r < n; r++) {
                x.call(0, 1);
            }
            Check.same("all wait", x.car(0, 4), 0);
            x.step(16);
            Check.same("all are aboard", x.car(0, 4), n);
            x.step(1);
            Check.same("all arrived", x.car(0, 4), 0);
        }
    }

    private static void floorsOfAStop() {
        Check.sentence("IllegalArgumentException if there is no such floor");
        for (int floors = 2; floors <= 10; floors++) {
            LiftGroup x = Lifts.built(floors, 1, 1);
            x.call(floors - 1, 0);
            int[] numbers = {LEAST, -32, -1, 0, floors - 2, floors - 1, floors, 10, 16, 32, 64, GREATEST};
            for (int floor : numbers) {
                String due = floor < 0 || floor >= floors ? "throws.IllegalArgumentException"
                        : floor == floors - 1 ? "1" : "0";
                Check.same("floor " + floor + " of " + floors, Check.answerOf(() -> x.stop(0, floor) ? 1 : 0), due);
            }
        }
    }

    private static void riderWhats() {
        Check.sentence("Of a rider: 0 waits (0), aboard (1), arrived (2), put out (3)");
        LiftGroup x = Lifts.built(10, 1, 1);
        x.call(9, 0);
        x.step(21);
        Check.same("waits", x.rider(0, 0), 0);
        x.step(1);
        Check.same("aboard", x.rider(0, 0), 1);
        x.step(29);
        Check.same("arrived", x.rider(0, 0), 2);
        x.call(0, 9);
        x.step(1);
        x.recall(true);
        x.step(1);
        Check.same("put out", x.rider(1, 0), 3);
        int[] due = {3, 0, 0, 9, 2};
        for (int what = 0; what < 5; what++) {
            Check.same("what " + what, x.rider(1, what), due[what]);
        }
        int[] wrong = {LEAST, -1, 5, 6, 32, 256, GREATEST};
        for (int what : wrong) {
            Check.refused("what " + what, Lifts.ARGUMENT, () -> x.rider(0, what));
        }
    }

    private static void carOfARider() {
        Check.sentence("1 the car (that it waits for, is aboard, or was last; NONE: none)");
        LiftGroup x = Lifts.built(3, 2, 1);
        x.lock(0, true);
        x.call(0, 2);
        x.call(2, 0);
        Lifts.riderIs("waits for car 1", x, 1, 0, 1);
        x.step(4);
        Lifts.riderIs("aboard of car 1", x, 0, 1, 1);
        x.lock(1, true);
        Lifts.riderIs("waits for none", x, 1, 0, LiftGroup.NONE);
        Lifts.riderIs("aboard of a locked car", x, 0, 1, 1);
        x.step(15);
        Lifts.riderIs("arrived, was last in car 1", x, 0, 2, 1);
        x.fail(1, true);
        x.recall(true);
        Lifts.riderIs("arrived, still", x, 0, 2, 1);
        LiftGroup y = Lifts.built(3, 2, 1);
        y.lock(0, true);
        y.call(0, 2);
        y.step(4);
        y.recall(true);
        y.step(1);
        Lifts.riderIs("put out, was last in car 1", y, 0, 3, 1);
        y.recall(false);
        Lifts.riderIs("put out, still", y, 0, 3, 1);
    }

    private static void stepsOfARider() {
        Check.sentence("4 how many steps since the call, until it arrived or was put out");
        LiftGroup x = new LiftGroup();
        x.step(200);
        x.call(0, 1);
        Check.same("at the call", x.rider(0, 4), 0);
        x.lock(0, true);
        x.step(200);
        Check.same("waits for none", x.rider(0, 4), 200);
        x.lock(0, false);
        x.step(16);
        Check.same("aboard", x.rider(0, 4), 216);
        x.step(1);
        Check.same("arrived", x.rider(0, 4), 217);
        x.step(1);
        Check.same("arrived, a step later", x.rider(0, 4), 217);
        x.call(1, 0);
        x.step(1);
        x.fail(0, true);
        x.step(10);
        Check.same("aboard of a failed car", x.rider(1, 4), 11);
        LiftGroup y = new LiftGroup();
        y.call(0, 1);
        y.step(4);
        y.recall(true);
        y.step(1);
        Check.same("put out", y.rider(0, 4), 5);
        y.step(200);
        Check.same("put out, later", y.rider(0, 4), 5);
    }

    private static void noPromise() {
        Check.sentence("NONE if there is none, or the rider waits for no car, arrived or was put out");
        LiftGroup x = new LiftGroup();
        x.call(0, 1);
        Check.same("waits for a car", x.promise(0), 17);
        x.lock(0, true);
        Check.same("waits for no car", x.promise(0), -1);
        x.lock(0, false);
        x.step(4);
        Check.same("aboard", x.promise(0), 13);
        x.fail(0, true);
        Check.same("aboard of a failed car", x.promise(0), -1);
        x.fail(0, false);
        x.step(13);
        Check.same("arrived", x.promise(0), -1);
        x.call(1, 0);
        x.step(1);
        x.recall(true);
        Check.same("to floor 0 in recall", x.promise(1), 3 + 3 + 2 + 4);
        LiftGroup y = new LiftGroup();
        y.call(0, 1);
        y.step(4);
        y.recall(true);
        Check.same("will be put out", y.promise(0), -1);
        y.step(1);
        Check.same("was put out", y.promise(0), -1);
        y.recall(false);
        Check.same("was put out, and recall is over", y.promise(0), -1);
    }

    private static void eventWhats() {
        Check.sentence("Of the i-th of the events kept, 0 the oldest: 0 its step, 1 its kind, 2 the rider, 3 the car");
        LiftGroup x = Lifts.built(10, 4, 1);
        for (int r = 0; r < 24; r++) {
            x.call(0, 9);
        }
        x.step(4);
        Lifts.eventIs(x, 0, 0, 1, 0, 0);
        Lifts.eventIs(x, 3, 0, 1, 3, 3);
        Lifts.eventIs(x, 27, 4, 2, 3, 3);
        int[] wrong = {LEAST, -1, 4, 5, 32, 256, GREATEST};
        for (int what : wrong) {
            Check.refused("what " + what, Lifts.ARGUMENT, () -> x.event(0, what));
        }
        int[] none = {LEAST, -30, -1, 28, 29, 30, 58, GREATEST};
        for (int i : none) {
            Check.refused("event " + i + " of 28", Lifts.INDEX, () -> x.event(i, 0));
        }
        x.step(200);
        Check.same("in all", x.about(2) > 30 ? 1 : 0, 1);
        Check.same("the last is kept", Check.answerOf(() -> x.event(29, 1)).startsWith("throws") ? 0 : 1, 1);
        int[] beyond = {LEAST, -30, -1, 30, 31, 60, GREATEST};
        for (int i : beyond) {
            Check.refused("event " + i + " of 30", Lifts.INDEX, () -> x.event(i, 0));
        }
    }

    private static void carOfAnEvent() {
        Check.sentence("3 the car (NONE for 5)");
        LiftGroup x = Lifts.built(2, 4, 1);
        x.lock(0, true);
        x.lock(1, true);
        x.lock(2, true);
        x.call(1, 0);
        Check.same("gets the last car", x.event(0, 3), 3);
        x.lock(3, true);
        Check.same("waits for none", x.event(1, 3), LiftGroup.NONE);
        x.lock(0, false);
        Check.same("gets the first", x.event(2, 3), 0);
        Check.same("what was noted stays", x.event(1, 3), LiftGroup.NONE);
    }

    private static void aboutWhats() {
        Check.sentence("0 how many steps, 1 riders, 2 events there were in all, 3 riders that arrived");
        LiftGroup x = Lifts.built(2, 1, 5);
        Lifts.aboutIs("none of all", x, "0 0 0 0 0 0");
        for (int r = 0; r < 24; r++) {
            x.call(0, 1);
        }
        Lifts.aboutIs("the most riders", x, "0 24 24 0 0 0");
        x.step(200);
        Lifts.aboutIs("all arrived", x, "200 24 72 24 121 " + (5 * (17 + 43 + 69 + 95) + 4 * 121));
        Check.sentence("NONE for another what");
        int[] wrong = {LEAST, -1, 6, 7, 32, 256, GREATEST};
        for (int what : wrong) {
            Check.same("what " + what, x.about(what), LiftGroup.NONE);
        }
    }

    private static void mostAndAllSteps() {
        Check.sentence("4 the most steps of one of them (0 without), 5 the steps of all of them");
        LiftGroup x = new LiftGroup();
        x.call(0, 1);
        x.step(16);
        Lifts.aboutIs("aboard is not arrived", x, "16 1 2 0 0 0");
        x.step(1);
        Lifts.aboutIs("one", x, "17 1 3 1 17 17");
        x.call(1, 0);
        x.step(13);
        x.step(1);
        Lifts.aboutIs("one that took fewer", x, "31 2 6 2 17 30");
        x.call(0, 1);
        x.step(1);
        x.recall(true);
        x.step(20);
        Lifts.aboutIs("one that was put out", x, "52 3 9 2 17 30");
    }

    private static void first512Calls() {
        Check.sentence("An object is used for at most 512 calls after it has been made");
        LiftGroup x = new LiftGroup();
        for (int i = 1; i <= 511; i++) {
            x.step(200);
        }
        Check.same("511 times 200 steps", x.about(0), 102200);
        LiftGroup y = new LiftGroup();
        y.building(10, 1, 1);
        for (int r = 0; r < 24; r++) {
            y.call(9, 0);
        }
        for (int i = 26; i <= 511; i++) {
            y.lock(0, i % 2 == 0);
        }
        Check.same("24 riders, 487 times", y.about(2), 24 * 487);
    }
}
