/** Promises 1 to 15, one method each, with answers reckoned by hand from the document. */
public final class PromisesTest {
    public static void main(String[] args) {
        promise1NewObject();
        promise2Building();
        promise3Call();
        promise3Choosing();
        promise4Doors();
        promise4Ways();
        promise4Exchange();
        promise5Curtain();
        promise6Lock();
        promise7Fail();
        promise8RecallBegins();
        promise8RecallEnds();
        promise9Car();
        promise10Stop();
        promise11Worst();
        promise12Rider();
        promise13Promise();
        promise14Event();
        promise15About();
        Check.end("PromisesTest");
    }

    private static void promise1NewObject() {
        LiftGroup x = new LiftGroup();
        Lifts.carIs("new", x, 0, 0, 0, 0, 0);
        Check.same("new: aboard", x.car(0, 4), 0);
        Check.same("new: faults", x.car(0, 5), 0);
        Check.refused("new: a second car", Lifts.NO_SUCH, () -> x.car(1, 0));
        Check.same("new: floor 1 is there", x.stop(0, 1) ? 1 : 0, 0);
        Check.refused("new: a third floor", Lifts.ARGUMENT, () -> x.stop(0, 2));
        Lifts.aboutIs("new", x, "0 0 0 0 0 0");
        Check.refused("new: an event", Lifts.INDEX, () -> x.event(0, 0));
        x.call(0, 1);
        x.call(0, 1);
        x.step(5);
        Check.same("new: one place alone", x.car(0, 4), 1);
    }

    private static void promise2Building() {
        LiftGroup x = new LiftGroup();
        x.building(10, 4, 5);
        Check.same("ten floors", x.stop(3, 9) ? 1 : 0, 0);
        Check.refused("an eleventh floor", Lifts.ARGUMENT, () -> x.stop(3, 10));
        Check.refused("a fifth car", Lifts.NO_SUCH, () -> x.car(4, 0));
        for (int c = 1; c < 4; c++) {
            x.lock(c, true);
        }
        for (int r = 0; r < 6; r++) {
            Check.same("all go with car 0", x.call(0, 1), 0);
        }
        x.step(4);
        Check.same("five places", x.car(0, 4), 5);
        int[][] wrong = {{1, 1, 1}, {11, 1, 1}, {2, 0, 1}, {2, 5, 1}, {2, 1, 0}, {2, 1, 6}, {-1, 1, 1},
            {2, Integer.MIN_VALUE, 1}, {2, 1, Integer.MAX_VALUE}};
        for (int[] w : wrong) {
            Check.refused("building " + w[0] + " " + w[1] + " " + w[2], Lifts.ARGUMENT, () -> x.building(w[0], w[1], w[2]));
        }
        Check.same("a refused building changes nothing", x.car(0, 4), 5);
        x.step(20);
        x.curtain(1, true);
        x.fail(0, true);
        x.recall(true);
        x.building(3, 4, 2);
        for (int c = 0; c < 4; c++) {
            Lifts.carIs("built anew", x, c, 0, 0, 0, 0);
            Check.same("built anew: aboard", x.car(c, 4), 0);
            Check.same("built anew: faults", x.car(c, 5), 0);
            Check.same("built anew: no stop, for no recall", x.stop(c, 0) ? 1 : 0, 0);
            Check.same("built anew: worst", x.worst(c), 0);
        }
        Lifts.aboutIs("built anew", x, "0 0 0 0 0 0");
        Check.refused("built anew: rider", Lifts.NO_SUCH, () -> x.rider(0, 0));
        Check.refused("built anew: event", Lifts.INDEX, () -> x.event(0, 0));
        Check.same("built anew: call", x.call(0, 2), 0);
        Lifts.riderIs("built anew", x, 0, 0, 0);
        Check.same("built anew: only the new rider's floor", x.stop(0, 1) ? 1 : 0, 0);
        x.step(19);
        Check.same("built anew: the new rider's way", x.rider(0, 0), 2);
    }

    private static void promise3Call() {
        LiftGroup x = Lifts.built(4, 2, 1);
        int[][] wrong = {{-1, 0}, {0, -1}, {4, 0}, {0, 4}, {2, 2}, {9, 9}};
        for (int[] w : wrong) {
            Check.refused("call " + w[0] + " " + w[1], Lifts.ARGUMENT, () -> x.call(w[0], w[1]));
        }
        x.lock(0, true);
        Check.same("call with one car left", x.call(3, 0), 1);
        x.fail(1, true);
        Check.refused("call with none usable", Lifts.STATE, () -> x.call(0, 3));
        Check.refused("a wrong floor goes before that", Lifts.ARGUMENT, () -> x.call(0, 4));
        Check.same("no rider came of it", x.about(1), 1);
        x.lock(0, false);
        x.recall(true);
        Check.refused("call in recall", Lifts.STATE, () -> x.call(0, 3));
        x.recall(false);
        for (int r = 1; r < 24; r++) {
            x.call(r % 4, (r + 1) % 4);
        }
        int events = x.about(2);
        Check.refused("a 25th rider", Lifts.UNSUPPORTED, () -> x.call(0, 3));
        Check.refused("a 25th rider, wrong floor", Lifts.ARGUMENT, () -> x.call(3, 3));
        x.recall(true);
        Check.refused("a 25th rider, none usable", Lifts.STATE, () -> x.call(0, 3));
        Check.same("24 riders", x.about(1), 24);
        Check.same("no event came of it", x.about(2), events);
    }

    private static void promise3Choosing() {
        LiftGroup x = Lifts.built(10, 3, 2);
        Check.same("as good: the least number", x.call(0, 9), 0);
        Check.same("the worst of car 0 does not grow", x.call(0, 9), 0);
        Check.same("a third finds no place there", x.call(0, 9), 1);
        Check.same("and the fourth goes with the third", x.call(0, 9), 1);
        LiftGroup y = Lifts.built(10, 2, 1);
        y.call(0, 9);
        y.lock(0, true);
        y.lock(0, false);
        Check.same("the rider stays with its new car", y.rider(0, 1), 1);
        Check.same("a locked car is not chosen", y.call(0, 1), 0);
        LiftGroup z = Lifts.built(10, 2, 1);
        z.curtain(0, true);
        z.lock(1, true);
        for (int r = 0; r < 20; r++) {
            z.call(9 * (r % 2), 9 - 9 * (r % 2));
        }
        Check.same("as bad as can be", z.worst(0), 1000);
        z.lock(1, false);
        Check.same("what is worst cannot grow", z.call(5, 0), 0);
        LiftGroup w = Lifts.built(10, 2, 5);
        Check.same("w: first", w.call(9, 8), 0);
        Check.same("w: growth counts, not the worst", w.call(7, 9), 0);
    }

    private static void promise4Doors() {
        LiftGroup x = new LiftGroup();
        x.call(0, 1);
        int[][] due = {{0, 0, 1, 3}, {0, 0, 1, 2}, {0, 0, 1, 1}, {0, 0, 2, 4}, {0, 0, 2, 3}, {0, 0, 2, 2}, {0, 0, 2, 1},
            {0, 0, 3, 3}, {0, 0, 3, 2}, {0, 0, 3, 1}, {0, 0, 0, 0}, {1, 1, 0, 0}, {2, 1, 0, 0}, {2, 1, 1, 3}, {2, 1, 1, 2},
            {2, 1, 1, 1}, {2, 1, 2, 4}, {2, 1, 2, 3}, {2, 1, 2, 2}, {2, 1, 2, 1}, {2, 1, 3, 3}, {2, 1, 3, 2}, {2, 1, 3, 1},
            {2, 1, 0, 0}, {2, 0, 0, 0}, {2, 0, 0, 0}};
        for (int i = 0; i < due.length; i++) {
            x.step(1);
            Lifts.carIs("step " + (i + 1), x, 0, due[i][0], due[i][1], due[i][2], due[i][3]);
        }
        x.step(0);
        Check.same("step 0 is none", x.about(0), 26);
        int[] wrong = {-1, 201, Integer.MIN_VALUE, Integer.MAX_VALUE};
        for (int n : wrong) {
            Check.refused("step " + n, Lifts.ARGUMENT, () -> x.step(n));
        }
        Check.same("a refused step is none", x.about(0), 26);
        x.step(200);
        Check.same("200 steps", x.about(0), 226);
        x.call(0, 1);
        x.step(1);
        x.fail(0, true);
        x.step(50);
        Lifts.carIs("a failed car makes no steps", x, 0, 1, -1, 0, 0);
        Check.same("though there are steps", x.about(0), 277);
    }

    private static void promise4Ways() {
        LiftGroup x = Lifts.atFloor(1, 3);
        x.call(2, 0);
        x.call(0, 2);
        x.step(1);
        Lifts.carIs("as near above and below: down", x, 0, 1, -1, 0, 0);
        LiftGroup y = Lifts.atFloor(1, 5);
        y.call(3, 0);
        y.call(0, 3);
        y.step(1);
        Lifts.carIs("nearer below", y, 0, 1, -1, 0, 0);
        LiftGroup z = Lifts.atFloor(2, 5);
        z.call(0, 3);
        z.call(3, 0);
        z.step(1);
        Lifts.carIs("nearer above", z, 0, 5, 1, 0, 0);
        z.call(2, 4);
        z.step(1);
        Lifts.carIs("it goes on, though a stop behind is as near", z, 0, 6, 1, 0, 0);
        z.step(1);
        Lifts.carIs("a stop", z, 0, 6, 1, 1, 3);
        LiftGroup w = Lifts.built(4, 1, 1);
        w.call(3, 0);
        w.step(17);
        Lifts.carIs("closed again", w, 0, 6, 1, 0, 0);
        w.step(1);
        Lifts.carIs("it turns and moves in one step", w, 0, 5, -1, 0, 0);
        w.step(5);
        Lifts.carIs("down at floor 0", w, 0, 0, -1, 0, 0);
        LiftGroup v = Lifts.built(4, 2, 1);
        v.call(3, 0);
        v.step(3);
        v.lock(0, true);
        v.step(1);
        Lifts.carIs("without stops, between floors", v, 0, 3, 0, 0, 0);
        v.lock(0, false);
        v.call(1, 0);
        v.step(1);
        Lifts.carIs("from between floors: down", v, 0, 2, -1, 0, 0);
    }

    private static void promise4Exchange() {
        LiftGroup x = Lifts.built(3, 1, 2);
        x.call(1, 2);
        x.call(0, 2);
        x.call(0, 1);
        x.call(0, 1);
        x.step(3);
        Check.same("no one while it opens", x.car(0, 4), 0);
        x.step(1);
        Lifts.riderIs("aboard by number", x, 1, 1, 0);
        Lifts.riderIs("aboard by number", x, 2, 1, 0);
        Lifts.riderIs("no room", x, 3, 0, 0);
        Lifts.riderIs("at another floor", x, 0, 0, 0);
        x.step(13);
        Lifts.riderIs("one arrives", x, 2, 2, 0);
        Lifts.riderIs("and one takes the place in the same step", x, 0, 1, 0);
        Lifts.riderIs("one goes on", x, 1, 1, 0);
        Lifts.eventIs(x, 6, 17, 3, 2, 0);
        Lifts.eventIs(x, 7, 17, 2, 0, 0);
        LiftGroup y = Lifts.built(3, 1, 2);
        y.call(0, 2);
        y.step(7);
        y.call(0, 1);
        y.step(1);
        Lifts.riderIs("in the last open step", y, 1, 1, 0);
        LiftGroup z = Lifts.built(3, 1, 2);
        z.call(0, 2);
        z.step(8);
        z.call(0, 1);
        z.step(3);
        Lifts.riderIs("not while it closes", z, 1, 0, 0);
        z.step(1);
        Lifts.carIs("it opens again", z, 0, 0, 0, 1, 3);
        z.step(3);
        Lifts.riderIs("then", z, 1, 1, 0);
    }

    private static void promise5Curtain() {
        LiftGroup x = Lifts.built(4, 1, 2);
        x.call(2, 0);
        x.step(8);
        x.curtain(0, true);
        Check.same("broken", x.car(0, 5), 4);
        x.step(20);
        Lifts.carIs("20 steps held", x, 0, 4, 1, 2, 4);
        x.step(1);
        Lifts.carIs("then it goes on", x, 0, 4, 1, 2, 3);
        x.step(3);
        Lifts.carIs("slow", x, 0, 4, 1, 4, 6);
        x.step(5);
        Lifts.carIs("slow does not open again", x, 0, 4, 1, 4, 1);
        x.step(1);
        Lifts.carIs("closed", x, 0, 4, 1, 0, 0);
        LiftGroup y = new LiftGroup();
        y.call(0, 1);
        y.step(9);
        y.curtain(0, true);
        y.step(1);
        Lifts.carIs("it opens again", y, 0, 0, 0, 1, 3);
        y.step(23);
        Lifts.carIs("and is held anew", y, 0, 0, 0, 2, 4);
        y.curtain(0, false);
        Check.same("whole", y.car(0, 5), 0);
        y.step(4);
        Lifts.carIs("whole: closing", y, 0, 0, 0, 3, 3);
        LiftGroup z = new LiftGroup();
        z.call(0, 1);
        z.step(6);
        z.curtain(0, true);
        z.step(18);
        Lifts.carIs("steps ahead of the breaking count", z, 0, 0, 0, 2, 2);
        z.step(1);
        Lifts.carIs("20 are over", z, 0, 0, 0, 2, 1);
        z.step(1);
        Lifts.carIs("slow, with fewer left", z, 0, 0, 0, 4, 6);
        z.curtain(0, false);
        z.step(5);
        Lifts.carIs("slow stays slow", z, 0, 0, 0, 4, 1);
        // The document does not say outright that steps held open by recall count; its words do.
        LiftGroup w = new LiftGroup();
        w.recall(true);
        w.curtain(0, true);
        w.step(30);
        w.recall(false);
        w.step(1);
        Lifts.carIs("open in 20 steps and more, in recall", w, 0, 0, 0, 2, 3);
        Check.refused("curtain -1", Lifts.NO_SUCH, () -> z.curtain(-1, true));
        Check.refused("curtain 1", Lifts.NO_SUCH, () -> z.curtain(1, true));
    }

    private static void promise6Lock() {
        LiftGroup x = Lifts.built(6, 2, 1);
        x.call(0, 5);
        x.call(3, 0);
        Lifts.riderIs("before", x, 1, 0, 1);
        x.lock(1, true);
        Check.same("locked", x.car(1, 5), 1);
        Lifts.riderIs("another car", x, 1, 0, 0);
        Lifts.eventIs(x, 2, 0, 1, 1, 0);
        x.lock(1, true);
        Check.same("locked already: nothing", x.about(2), 3);
        x.step(4);
        x.lock(0, true);
        Lifts.riderIs("aboard stays aboard", x, 0, 1, 0);
        Lifts.riderIs("waits for none", x, 1, 0, -1);
        Lifts.eventIs(x, 4, 4, 5, 1, -1);
        x.step(21);
        Lifts.riderIs("a locked car goes on", x, 0, 2, 0);
        x.fail(1, true);
        x.lock(1, false);
        Lifts.riderIs("unlocked, but failed", x, 1, 0, -1);
        Check.same("no event", x.about(2), 6);
        x.lock(0, false);
        Lifts.riderIs("usable again", x, 1, 0, 0);
        Lifts.eventIs(x, 6, 25, 1, 1, 0);
        x.lock(0, false);
        Check.same("not locked already: nothing", x.about(2), 7);
        Check.refused("lock -1", Lifts.NO_SUCH, () -> x.lock(-1, true));
        Check.refused("lock 2", Lifts.NO_SUCH, () -> x.lock(2, false));
        LiftGroup y = Lifts.built(6, 3, 1);
        for (int r = 0; r < 3; r++) {
            y.call(5, 0);
        }
        y.lock(0, true);
        y.lock(1, true);
        Lifts.riderIs("all with the last car", y, 0, 0, 2);
        Lifts.riderIs("all with the last car", y, 1, 0, 2);
        y.lock(2, true);
        for (int r = 0; r < 3; r++) {
            Lifts.eventIs(y, 6 + r, 0, 5, r, -1);
        }
        y.recall(true);
        y.lock(0, false);
        Lifts.riderIs("unlocked in recall: not usable", y, 0, 0, -1);
    }

    private static void promise7Fail() {
        LiftGroup x = Lifts.built(6, 2, 1);
        x.call(0, 5);
        x.call(3, 0);
        x.step(10);
        x.fail(1, true);
        Check.same("failed", x.car(1, 5), 2);
        Lifts.riderIs("aboard stays", x, 1, 1, 1);
        Check.same("it opened at floor 3", x.car(1, 0), 6);
        x.fail(0, true);
        x.step(30);
        Lifts.carIs("stands still", x, 0, 0, 0, 3, 1);
        Check.same("no promise", x.promise(0), -1);
        x.fail(0, false);
        x.step(15);
        Lifts.riderIs("repaired, it goes on", x, 0, 2, 0);
        Check.same("45 steps and more", x.rider(0, 4), 55);
        LiftGroup y = Lifts.built(6, 2, 1);
        y.call(5, 0);
        y.call(5, 0);
        y.fail(0, true);
        Lifts.riderIs("another car", y, 0, 0, 1);
        y.fail(1, true);
        Lifts.eventIs(y, 3, 0, 5, 0, -1);
        Lifts.eventIs(y, 4, 0, 5, 1, -1);
        y.fail(1, true);
        Check.same("failed already: nothing", y.about(2), 5);
        y.lock(0, true);
        y.fail(0, false);
        Lifts.riderIs("repaired, but locked", y, 0, 0, -1);
        Check.same("no event", y.about(2), 5);
        y.fail(1, false);
        Lifts.riderIs("usable", y, 0, 0, 1);
        Lifts.riderIs("usable", y, 1, 0, 1);
        y.fail(1, false);
        Check.same("repaired already: nothing", y.about(2), 7);
        Check.refused("fail -1", Lifts.NO_SUCH, () -> y.fail(-1, true));
        Check.refused("fail 2", Lifts.NO_SUCH, () -> y.fail(2, true));
    }

    private static void promise8RecallBegins() {
        LiftGroup x = Lifts.built(5, 2, 2);
        x.call(2, 4);
        x.step(8);
        Check.same("the other car", x.call(0, 1), 1);
        int events = x.about(2);
        x.recall(true);
        Lifts.riderIs("waits for none", x, 1, 0, -1);
        Check.same("without an event", x.about(2), events);
        x.recall(true);
        x.step(14);
        Lifts.carIs("on its way to open at 0", x, 0, 0, -1, 1, 1);
        Lifts.carIs("it stays open", x, 1, 0, 0, 2, 4);
        Lifts.riderIs("no one comes aboard", x, 1, 0, -1);
        x.step(1);
        Lifts.riderIs("put out", x, 0, 3, 0);
        Lifts.eventIs(x, events, 23, 4, 0, 0);
        x.step(100);
        Lifts.carIs("open as long as recall is", x, 0, 0, -1, 2, 4);
        Check.same("steps until it was put out", x.rider(0, 4), 23);
        LiftGroup y = new LiftGroup();
        y.call(0, 1);
        y.step(14);
        y.recall(true);
        y.step(3);
        Lifts.riderIs("arrives where the door was opening", y, 0, 2, 0);
        y.step(7);
        Lifts.carIs("closes there", y, 0, 2, 1, 0, 0);
        y.step(3);
        Lifts.carIs("and opens at 0", y, 0, 0, -1, 1, 3);
        LiftGroup z = Lifts.built(3, 1, 2);
        z.call(2, 1);
        z.call(2, 0);
        z.step(8);
        Check.same("both aboard", z.car(0, 4), 2);
        z.recall(true);
        z.step(15);
        Lifts.riderIs("put out", z, 0, 3, 0);
        Lifts.riderIs("arrives", z, 1, 2, 0);
        Lifts.eventIs(z, 4, 23, 3, 1, 0);
        Lifts.eventIs(z, 5, 23, 4, 0, 0);
    }

    private static void promise8RecallEnds() {
        LiftGroup x = Lifts.built(5, 2, 2);
        x.recall(false);
        Check.same("not recalled already: nothing", x.about(2), 0);
        x.call(3, 4);
        x.call(0, 4);
        x.recall(true);
        x.step(50);
        x.recall(false);
        Lifts.riderIs("by number, the same for both cars", x, 0, 0, 0);
        Lifts.eventIs(x, 2, 50, 1, 0, 0);
        Check.same("both got a car", x.about(2), 4);
        x.step(1);
        Lifts.carIs("the door goes on", x, 0, 0, 0, 2, 3);
        LiftGroup y = Lifts.built(5, 2, 2);
        y.call(3, 4);
        y.recall(true);
        y.lock(0, true);
        y.fail(1, true);
        y.recall(false);
        Lifts.riderIs("no car is usable", y, 0, 0, -1);
        Lifts.eventIs(y, 1, 0, 5, 0, -1);
        y.lock(0, false);
        Lifts.riderIs("now one is", y, 0, 0, 0);
    }

    private static void promise9Car() {
        LiftGroup x = Lifts.built(4, 2, 3);
        x.call(0, 3);
        x.call(0, 3);
        x.step(14);
        int[] due = {3, 1, 0, 0, 2, 0};
        for (int what = 0; what < 6; what++) {
            Check.same("car 0 " + what, x.car(0, what), due[what]);
        }
        x.lock(1, true);
        x.fail(1, true);
        x.curtain(1, true);
        Check.same("all faults", x.car(1, 5), 7);
        Check.refused("car -1", Lifts.NO_SUCH, () -> x.car(-1, 0));
        Check.refused("car 2", Lifts.NO_SUCH, () -> x.car(2, 0));
        Check.refused("what -1", Lifts.ARGUMENT, () -> x.car(0, -1));
        Check.refused("what 6", Lifts.ARGUMENT, () -> x.car(0, 6));
        Check.refused("both wrong", Lifts.NO_SUCH, () -> x.car(2, 6));
    }

    private static void promise10Stop() {
        LiftGroup x = Lifts.built(5, 1, 1);
        x.call(1, 4);
        x.call(2, 0);
        Lifts.stopsAre("room: where they wait", x, 0, "01100");
        x.step(6);
        Check.same("aboard", x.car(0, 4), 1);
        Lifts.stopsAre("no room: where it goes", x, 0, "00001");
        x.recall(true);
        Lifts.stopsAre("recall", x, 0, "10000");
        x.recall(false);
        Lifts.stopsAre("after it", x, 0, "00001");
        LiftGroup y = Lifts.built(5, 1, 2);
        y.call(1, 4);
        y.call(2, 0);
        y.step(6);
        Lifts.stopsAre("room and one aboard", y, 0, "00101");
        Check.refused("stop of car -1", Lifts.NO_SUCH, () -> y.stop(-1, 0));
        Check.refused("stop of car 1", Lifts.NO_SUCH, () -> y.stop(1, 0));
        Check.refused("stop at floor -1", Lifts.ARGUMENT, () -> y.stop(0, -1));
        Check.refused("stop at floor 5", Lifts.ARGUMENT, () -> y.stop(0, 5));
        Check.refused("both wrong", Lifts.NO_SUCH, () -> y.stop(1, 5));
    }

    private static void promise11Worst() {
        LiftGroup x = Lifts.built(6, 2, 1);
        Check.same("without riders", x.worst(0), 0);
        x.call(0, 5);
        Check.same("one", x.worst(0), 25);
        x.lock(1, true);
        x.call(0, 1);
        Check.same("two, one after the other", x.worst(0), 25 + 7 + 10 + 4 + 7 + 2 + 4);
        x.step(4);
        Check.same("aboard and waiting", x.worst(0), 55);
        x.fail(0, true);
        Check.same("a failed car with one aboard", x.worst(0), 1000);
        x.fail(0, false);
        x.recall(true);
        Check.same("one that will be put out", x.worst(0), 1000);
        x.step(200);
        Check.same("all are gone", x.worst(0), 0);
        LiftGroup y = Lifts.built(10, 1, 1);
        y.curtain(0, true);
        for (int r = 0; r < 24; r++) {
            y.call(9 * (r % 2), 9 - 9 * (r % 2));
        }
        Check.same("more than 1000", y.worst(0), 1000);
        Check.refused("worst -1", Lifts.NO_SUCH, () -> y.worst(-1));
        Check.refused("worst 1", Lifts.NO_SUCH, () -> y.worst(1));
    }

    private static void promise12Rider() {
        LiftGroup x = Lifts.built(6, 2, 1);
        x.step(7);
        x.call(2, 5);
        int[] due = {0, 0, 2, 5, 0};
        for (int what = 0; what < 5; what++) {
            Check.same("rider 0 " + what, x.rider(0, what), due[what]);
        }
        x.step(6);
        Check.same("steps while it waits", x.rider(0, 4), 6);
        x.step(2);
        Lifts.riderIs("aboard", x, 0, 1, 0);
        Check.same("steps aboard", x.rider(0, 4), 8);
        x.step(17);
        Lifts.riderIs("arrived", x, 0, 2, 0);
        x.step(50);
        Lifts.riderIs("arrived, its last car", x, 0, 2, 0);
        Check.same("steps until it arrived", x.rider(0, 4), 25);
        Check.refused("rider -1", Lifts.NO_SUCH, () -> x.rider(-1, 0));
        Check.refused("rider 1", Lifts.NO_SUCH, () -> x.rider(1, 0));
        Check.refused("what -1", Lifts.ARGUMENT, () -> x.rider(0, -1));
        Check.refused("what 5", Lifts.ARGUMENT, () -> x.rider(0, 5));
        Check.refused("both wrong", Lifts.NO_SUCH, () -> x.rider(1, 5));
    }

    private static void promise13Promise() {
        LiftGroup x = Lifts.built(6, 1, 2);
        x.call(3, 1);
        x.call(5, 0);
        x.call(1, 4);
        for (int r = 0; r < 3; r++) {
            toldIsWhatComes(x, r);
        }
        Check.same("asking changes nothing", x.about(0) + x.about(3), 0);
        Check.same("arrives at once in the last opening step", arrivingNext().promise(0), 1);
        LiftGroup y = Lifts.built(10, 1, 1);
        y.curtain(0, true);
        for (int r = 0; r < 24; r++) {
            y.call(9 * (r % 2), 9 - 9 * (r % 2));
        }
        Check.same("more than 1000 is none", y.promise(23), -1);
        int asked = 0;
        while (asked < 3000 && y.promise(23) == -1) {
            y.step(1);
            asked++;
        }
        Check.same("1000 is told", y.promise(23), 1000);
        LiftGroup z = new LiftGroup();
        z.call(0, 1);
        z.lock(0, true);
        Check.same("waits for none", z.promise(0), -1);
        z.lock(0, false);
        z.step(4);
        z.lock(0, true);
        Check.same("aboard a locked car", z.promise(0), 13);
        z.recall(true);
        Check.same("will be put out", z.promise(0), -1);
        z.step(1);
        Check.same("was put out", z.rider(0, 0) * 10 + z.promise(0), 29);
        Check.refused("promise -1", Lifts.NO_SUCH, () -> z.promise(-1));
        Check.refused("promise 1", Lifts.NO_SUCH, () -> z.promise(1));
    }

    private static LiftGroup arrivingNext() {
        LiftGroup x = new LiftGroup();
        x.call(0, 1);
        x.step(16);
        return x;
    }

    private static void toldIsWhatComes(LiftGroup told, int rider) {
        int ahead = told.promise(rider);
        LiftGroup x = Lifts.built(6, 1, 2);
        x.call(3, 1);
        x.call(5, 0);
        x.call(1, 4);
        x.step(ahead - 1);
        Check.same("rider " + rider + " is aboard until then", x.rider(rider, 0) * 10 + x.promise(rider), 11);
        x.step(1);
        Check.same("rider " + rider + " arrives then", x.rider(rider, 0) * 1000 + x.rider(rider, 4), 2000 + ahead);
        Check.same("rider " + rider + " arrived: none", x.promise(rider), -1);
    }

    private static void promise14Event() {
        LiftGroup x = Lifts.built(2, 1, 5);
        for (int r = 0; r < 10; r++) {
            x.call(0, 1);
        }
        x.step(100);
        Check.same("30 events", x.about(2), 30);
        for (int r = 0; r < 10; r++) {
            Lifts.eventIs(x, r, 0, 1, r, 0);
        }
        for (int r = 0; r < 5; r++) {
            Lifts.eventIs(x, 10 + r, 4, 2, r, 0);
            Lifts.eventIs(x, 15 + r, 17, 3, r, 0);
            Lifts.eventIs(x, 20 + r, 30, 2, 5 + r, 0);
            Lifts.eventIs(x, 25 + r, 43, 3, 5 + r, 0);
        }
        x.call(1, 0);
        Lifts.eventIs(x, 0, 0, 1, 1, 0);
        Lifts.eventIs(x, 29, 100, 1, 10, 0);
        x.lock(0, true);
        Lifts.eventIs(x, 28, 100, 1, 10, 0);
        Lifts.eventIs(x, 29, 100, 5, 10, -1);
        Check.refused("event 30", Lifts.INDEX, () -> x.event(30, 0));
        Check.refused("event -1", Lifts.INDEX, () -> x.event(-1, 0));
        Check.refused("what -1", Lifts.ARGUMENT, () -> x.event(0, -1));
        Check.refused("what 4", Lifts.ARGUMENT, () -> x.event(0, 4));
        Check.refused("both wrong", Lifts.INDEX, () -> x.event(30, 4));
        LiftGroup y = new LiftGroup();
        y.call(0, 1);
        Lifts.eventIs(y, 0, 0, 1, 0, 0);
        Check.refused("event 1 of one", Lifts.INDEX, () -> y.event(1, 0));
    }

    private static void promise15About() {
        LiftGroup x = Lifts.built(6, 2, 1);
        x.call(0, 5);
        x.call(0, 1);
        x.step(16);
        Lifts.aboutIs("none arrived", x, "16 2 4 0 0 0");
        x.step(1);
        Lifts.aboutIs("one arrived", x, "17 2 5 1 17 17");
        x.step(8);
        Lifts.aboutIs("two arrived", x, "25 2 6 2 25 42");
        x.call(5, 0);
        x.step(4);
        x.recall(true);
        x.step(100);
        Lifts.aboutIs("a quicker one arrived too, in recall", x, "129 3 9 3 25 63");
        Check.same("about -1", x.about(-1), -1);
        Check.same("about 6", x.about(6), -1);
        LiftGroup y = new LiftGroup();
        y.call(0, 1);
        y.step(5);
        y.recall(true);
        y.step(1);
        Lifts.aboutIs("put out is not arrived", y, "6 1 3 0 0 0");
    }
}
