/** Each sentence of the document's "Terms" that names a boundary, with a test of its own. */
public final class TermsEdgesTest {
    public static void main(String[] args) {
        twoToTenFloors();
        oneToFourCars();
        oneToFivePlaces();
        atMost24Riders();
        carsByNumber();
        evenHeights();
        failedMakesNoSteps();
        failedStepsAreNotOpen();
        usable();
        room();
        stopsOfNone();
        stopsInRecall();
        opensAtAStop();
        directionStays();
        directionTurns();
        nearestStop();
        asNearAboveAndBelow();
        withoutStops();
        opening();
        openInRecallAtFloor0();
        openInRecallElsewhere();
        heldFor20Steps();
        heldBrokenAndWhole();
        slowOrClosing();
        closingOpensAgain();
        slowIsNotOpenedAgain();
        arriveByNumber();
        putOutAtFloor0Alone();
        comeAboardWhileThereIsRoom();
        noOneComesAboardInRecall();
        promiseOf1();
        promiseOf1000();
        worstWithoutPromise();
        worstWithoutRiders();
        leastGrowth();
        leastNumberOfSeveral();
        noneIsUsable();
        chosenAgainByNumber();
        chosenWhenUsable();
        chosenWhenRecallEnds();
        recallBegins();
        eventSteps();
        eventKinds();
        last30Events();
        Check.end("TermsEdgesTest");
    }

    private static void twoToTenFloors() {
        Check.sentence("A BUILDING has floors 0 .. up to 9 (2 to 10 of them)");
        for (int n = 2; n <= 10; n++) {
            LiftGroup x = Lifts.built(n, 1, 1);
            int above = n;
            Check.refused("floor " + n + " of " + n, Lifts.ARGUMENT, () -> x.stop(0, above));
            Check.refused("floor -1 of " + n, Lifts.ARGUMENT, () -> x.stop(0, -1));
            Check.same("from the greatest floor to the least", x.call(n - 1, 0), 0);
            Check.same("its promise", x.promise(0), 4 * (n - 1) + 15);
            x.step(2 * (n - 1));
            Lifts.carIs("at the greatest floor", x, 0, 2 * (n - 1), 1, 0, 0);
            x.step(2 * (n - 1) + 15);
            Lifts.carIs("at the least floor", x, 0, 0, -1, 2, 4);
            Lifts.riderIs("at the least floor", x, 0, 2, 0);
        }
        Check.refused("1 floor", Lifts.ARGUMENT, () -> Lifts.built(1, 1, 1));
        Check.refused("11 floors", Lifts.ARGUMENT, () -> Lifts.built(11, 1, 1));
    }

    private static void oneToFourCars() {
        Check.sentence("1 to 4 CARS, numbered from 0");
        for (int n = 1; n <= 4; n++) {
            LiftGroup x = Lifts.built(2, n, 1);
            int beyond = n;
            Check.refused("car " + n + " of " + n, Lifts.NO_SUCH, () -> x.car(beyond, 0));
            Check.refused("car -1 of " + n, Lifts.NO_SUCH, () -> x.car(-1, 0));
            for (int c = 0; c < n; c++) {
                Check.same("a rider for each car", x.call(0, 1), c);
            }
            Check.same("then all are as good", x.call(0, 1), 0);
            x.step(1);
            for (int c = 0; c < n; c++) {
                Lifts.carIs("each makes its step", x, c, 0, 0, 1, 3);
            }
        }
        Check.refused("no car", Lifts.ARGUMENT, () -> Lifts.built(2, 0, 1));
        Check.refused("5 cars", Lifts.ARGUMENT, () -> Lifts.built(2, 5, 1));
    }

    private static void oneToFivePlaces() {
        Check.sentence("each with 1 to 5 PLACES");
        for (int n = 1; n <= 5; n++) {
            LiftGroup x = Lifts.built(2, 1, n);
            for (int r = 0; r <= n; r++) {
                x.call(0, 1);
            }
            x.step(4);
            Check.same(n + " places", x.car(0, 4), n);
            Lifts.riderIs("the last that finds one", x, n - 1, 1, 0);
            Lifts.riderIs("the first that finds none", x, n, 0, 0);
        }
        Check.refused("no place", Lifts.ARGUMENT, () -> Lifts.built(2, 1, 0));
        Check.refused("6 places", Lifts.ARGUMENT, () -> Lifts.built(2, 1, 6));
    }

    private static void atMost24Riders() {
        Check.sentence("RIDERS are numbered from 0 on in the order of their calls, at most 24");
        LiftGroup x = Lifts.built(10, 4, 5);
        for (int r = 0; r < 24; r++) {
            int number = r;
            Check.refused("rider " + r + " ahead of its call", Lifts.NO_SUCH, () -> x.rider(number, 0));
            x.call(r % 9, 9);
            Check.same("from where rider " + r + " called", x.rider(r, 2), r % 9);
            Check.same("how many", x.about(1), r + 1);
        }
        Check.refused("a 25th", Lifts.UNSUPPORTED, () -> x.call(0, 1));
        Check.refused("rider 24", Lifts.NO_SUCH, () -> x.rider(24, 0));
        for (int i = 0; i < 5; i++) {
            x.step(200);
        }
        Check.same("all arrived", x.about(3), 24);
        Check.refused("a 25th when all arrived", Lifts.UNSUPPORTED, () -> x.call(0, 1));
        x.building(10, 4, 5);
        Check.same("a new building has none", x.about(1), 0);
        Check.same("and takes calls again", x.call(0, 1), 0);
    }

    private static void carsByNumber() {
        Check.sentence("in a step each car, by number, makes one");
        LiftGroup x = Lifts.built(2, 2, 1);
        x.lock(0, true);
        x.call(0, 1);
        x.lock(0, false);
        x.call(0, 1);
        x.step(4);
        Lifts.eventIs(x, 2, 4, 2, 1, 0);
        Lifts.eventIs(x, 3, 4, 2, 0, 1);
    }

    private static void evenHeights() {
        Check.sentence("at a floor if it is even");
        LiftGroup x = Lifts.built(4, 1, 2);
        x.call(3, 0);
        x.step(3);
        x.call(1, 0);
        Lifts.stopsAre("floor 1 is a stop", x, 0, "0101");
        x.step(1);
        Lifts.carIs("half a floor above it nothing opens", x, 0, 4, 1, 0, 0);
        LiftGroup y = Lifts.built(2, 1, 1);
        y.call(1, 0);
        y.step(1);
        y.recall(true);
        y.step(1);
        Lifts.carIs("half a floor above floor 0 nothing opens", y, 0, 0, -1, 0, 0);
        y.step(1);
        Lifts.carIs("at floor 0 it does", y, 0, 0, -1, 1, 3);
    }

    private static void failedMakesNoSteps() {
        Check.sentence("FAILED (then it makes no steps)");
        for (int k = 0; k <= 26; k++) {
            LiftGroup x = new LiftGroup();
            LiftGroup twin = new LiftGroup();
            x.call(0, 1);
            twin.call(0, 1);
            x.step(k);
            twin.step(k);
            x.fail(0, true);
            x.step(37);
            for (int i = 0; i < 26; i++) {
                Lifts.carIs("failed after step " + k + ", then " + i, x, 0, twin.car(0, 0), twin.car(0, 1),
                        twin.car(0, 2), twin.car(0, 3));
                x.fail(0, false);
                x.step(1);
                x.fail(0, true);
                x.step(i % 3);
                twin.step(1);
            }
            Check.same("the rider's way", x.rider(0, 0), 2);
        }
    }

    private static void failedStepsAreNotOpen() {
        Check.sentence("FAILED (then it makes no steps)");
        LiftGroup x = new LiftGroup();
        x.curtain(0, true);
        x.call(0, 1);
        x.step(4 + 10);
        x.fail(0, true);
        x.step(50);
        x.fail(0, false);
        x.step(10);
        Lifts.carIs("held in 20 steps of its own", x, 0, 0, 0, 2, 4);
        x.step(1);
        Lifts.carIs("then no more", x, 0, 0, 0, 2, 3);
    }

    private static void usable() {
        Check.sentence("A car is USABLE if it is neither locked nor failed, and there is no recall");
        for (int i = 0; i < 8; i++) {
            LiftGroup x = new LiftGroup();
            x.lock(0, (i & 1) != 0);
            x.fail(0, (i & 2) != 0);
            x.recall((i & 4) != 0);
            String due = i == 0 ? "0" : "throws.IllegalStateException";
            Check.same("locked 1, failed 2, recall 4: " + i, Check.answerOf(() -> x.call(0, 1)), due);
        }
        LiftGroup y = Lifts.built(2, 4, 1);
        y.lock(0, true);
        y.fail(1, true);
        y.lock(2, true);
        Check.same("the last car alone", y.call(0, 1), 3);
        y.fail(3, true);
        Check.refused("not even that", Lifts.STATE, () -> y.call(0, 1));
    }

    private static void room() {
        Check.sentence("A car has ROOM if fewer riders are aboard than it has places");
        LiftGroup x = Lifts.built(3, 1, 2);
        x.call(0, 2);
        x.call(1, 2);
        Lifts.stopsAre("none of 2", x, 0, "110");
        x.step(4);
        Lifts.stopsAre("1 of 2", x, 0, "011");
        LiftGroup y = Lifts.built(3, 1, 2);
        y.call(0, 2);
        y.call(0, 2);
        y.call(0, 1);
        y.call(1, 2);
        y.step(4);
        Lifts.stopsAre("2 of 2", y, 0, "001");
        y.step(10);
        Lifts.carIs("it goes past those that wait", y, 0, 3, 1, 0, 0);
        y.step(4);
        Lifts.stopsAre("still 2 of 2", y, 0, "001");
        y.step(1);
        Lifts.stopsAre("none of 2 again", y, 0, "110");
    }

    private static void stopsOfNone() {
        Check.sentence("Its STOPS are the floors where riders aboard want to go and, if it has room, those where riders"
                + " wait for it");
        LiftGroup x = Lifts.built(10, 2, 1);
        Lifts.stopsAre("without riders", x, 0, "0000000000");
        x.call(9, 0);
        Lifts.stopsAre("the greatest floor", x, 0, "0000000001");
        Lifts.stopsAre("of the other car", x, 1, "0000000000");
        x.step(22);
        Lifts.stopsAre("the least floor", x, 0, "1000000000");
        x.lock(0, true);
        Lifts.stopsAre("locked, with one aboard", x, 0, "1000000000");
        x.step(200);
        Lifts.stopsAre("arrived", x, 0, "0000000000");
    }

    private static void stopsInRecall() {
        Check.sentence("in recall floor 0 alone");
        LiftGroup x = Lifts.built(10, 2, 1);
        x.call(0, 9);
        x.step(4);
        x.recall(true);
        Lifts.stopsAre("with one aboard", x, 0, "1000000000");
        Lifts.stopsAre("without riders", x, 1, "1000000000");
        x.fail(1, true);
        Lifts.stopsAre("failed", x, 1, "1000000000");
    }

    private static void opensAtAStop() {
        Check.sentence("if it is at a floor that is a stop, the door is OPENING, 3 left");
        LiftGroup x = Lifts.built(3, 1, 2);
        x.call(2, 0);
        x.call(0, 2);
        x.step(1);
        Lifts.carIs("the stop here goes before one elsewhere", x, 0, 0, 0, 1, 3);
        LiftGroup y = Lifts.built(3, 1, 2);
        y.call(0, 2);
        y.call(1, 0);
        y.step(11 + 2);
        Lifts.carIs("on its way up", y, 0, 2, 1, 0, 0);
        y.step(1);
        Lifts.carIs("it stops for one that goes down", y, 0, 2, 1, 1, 3);
    }

    private static void directionStays() {
        Check.sentence("its direction stays if it is up or down, and a stop lies that way");
        LiftGroup up = Lifts.built(10, 1, 2);
        up.call(9, 0);
        up.step(3);
        up.call(1, 0);
        for (int height = 4; height <= 18; height++) {
            up.step(1);
            Lifts.carIs("up to the last, though one behind is nearer", up, 0, height, 1, 0, 0);
        }
        LiftGroup down = Lifts.built(10, 1, 2);
        down.call(9, 0);
        down.step(18 + 11 + 3);
        down.call(8, 9);
        for (int height = 14; height >= 0; height--) {
            down.step(1);
            Lifts.carIs("down to the last, though one behind is nearer", down, 0, height, -1, 0, 0);
        }
    }

    private static void directionTurns() {
        Check.sentence("if it is up or down and none does, it turns");
        LiftGroup x = Lifts.built(10, 1, 1);
        x.call(9, 8);
        x.step(18 + 11);
        Lifts.carIs("closed at the greatest floor", x, 0, 18, 1, 0, 0);
        x.step(1);
        Lifts.carIs("it turns and moves", x, 0, 17, -1, 0, 0);
        LiftGroup y = Lifts.built(10, 1, 1);
        y.call(1, 0);
        y.call(1, 0);
        y.step(2 + 11 + 2 + 11);
        Lifts.carIs("closed at the least floor", y, 0, 0, -1, 0, 0);
        y.step(1);
        Lifts.carIs("it turns and moves", y, 0, 1, 1, 0, 0);
        LiftGroup z = Lifts.built(5, 1, 1);
        z.call(4, 0);
        z.step(5);
        z.recall(true);
        z.step(1);
        Lifts.carIs("it turns between floors", z, 0, 4, -1, 0, 0);
    }

    /** Two cars, of which car 0 stands between floors 1 and 2, direction none, and is usable alone. */
    private static LiftGroup betweenFloors() {
        LiftGroup x = Lifts.built(5, 2, 2);
        x.call(4, 0);
        x.step(3);
        x.lock(0, true);
        x.step(1);
        Lifts.carIs("without stops", x, 0, 3, 0, 0, 0);
        x.step(20);
        x.lock(1, true);
        x.lock(0, false);
        return x;
    }

    private static void nearestStop() {
        Check.sentence("if it is none, it becomes that of the nearest stop");
        LiftGroup x = betweenFloors();
        x.call(0, 1);
        x.call(2, 1);
        x.step(1);
        Lifts.carIs("1 half above, 3 halves below", x, 0, 4, 1, 0, 0);
        LiftGroup y = betweenFloors();
        y.call(1, 0);
        y.call(3, 0);
        y.step(1);
        Lifts.carIs("3 halves above, 1 half below", y, 0, 2, -1, 0, 0);
        LiftGroup z = Lifts.built(10, 1, 1);
        z.call(9, 0);
        z.step(1);
        Lifts.carIs("the one that is farthest off", z, 0, 1, 1, 0, 0);
        LiftGroup w = Lifts.atFloor(9, 10);
        w.call(0, 9);
        w.step(1);
        Lifts.carIs("the one that is farthest off, below", w, 0, 17, -1, 0, 0);
    }

    private static void asNearAboveAndBelow() {
        Check.sentence("down if one above and one below are as near");
        LiftGroup x = betweenFloors();
        x.call(2, 0);
        x.call(1, 0);
        x.step(1);
        Lifts.carIs("a half above and below", x, 0, 2, -1, 0, 0);
        LiftGroup y = Lifts.atFloor(4, 9);
        y.call(8, 0);
        y.call(0, 8);
        y.step(1);
        Lifts.carIs("4 floors above and below", y, 0, 7, -1, 0, 0);
    }

    private static void withoutStops() {
        Check.sentence("Without stops its direction is none");
        LiftGroup x = new LiftGroup();
        x.step(200);
        Lifts.carIs("from the beginning", x, 0, 0, 0, 0, 0);
        x.call(1, 0);
        x.step(1);
        x.lock(0, true);
        Lifts.carIs("its stop is gone", x, 0, 1, 1, 0, 0);
        x.step(1);
        Lifts.carIs("then its direction", x, 0, 1, 0, 0, 0);
        x.step(200);
        Lifts.carIs("it stays where it is", x, 0, 1, 0, 0, 0);
    }

    private static void opening() {
        Check.sentence("one less is left; at 0 the door is OPEN, 4 left, and riders are EXCHANGED");
        LiftGroup x = new LiftGroup();
        x.call(0, 1);
        x.step(3);
        Lifts.carIs("1 left", x, 0, 0, 0, 1, 1);
        Lifts.riderIs("1 left", x, 0, 0, 0);
        x.step(1);
        Lifts.carIs("0 left", x, 0, 0, 0, 2, 4);
        Lifts.riderIs("0 left", x, 0, 1, 0);
    }

    private static void openInRecallAtFloor0() {
        Check.sentence("In recall, at floor 0, nothing more");
        for (int open = 0; open < 4; open++) {
            LiftGroup x = new LiftGroup();
            x.call(0, 1);
            x.step(4 + open);
            x.recall(true);
            x.step(200);
            Lifts.carIs("as much is left", x, 0, 0, 0, 2, 4 - open);
            x.recall(false);
            x.step(1);
            int left = 3 - open;
            Lifts.carIs("then it goes on", x, 0, 0, 0, left == 0 ? 3 : 2, left == 0 ? 3 : left);
        }
        LiftGroup y = new LiftGroup();
        y.call(0, 1);
        y.step(9);
        y.recall(true);
        y.step(2);
        Lifts.carIs("a door that closes goes on", y, 0, 0, 0, 0, 0);
        y.step(4);
        Lifts.carIs("and opens again", y, 0, 0, 0, 2, 4);
        Lifts.riderIs("and opens again", y, 0, 3, 0);
    }

    private static void openInRecallElsewhere() {
        Check.sentence("In recall, at floor 0, nothing more");
        LiftGroup x = Lifts.built(3, 1, 2);
        x.call(1, 2);
        x.step(6);
        x.recall(true);
        x.step(3);
        Lifts.carIs("at another floor one less is left", x, 0, 2, 1, 2, 1);
        x.step(1);
        Lifts.carIs("and it closes", x, 0, 2, 1, 3, 3);
        x.step(4);
        Lifts.carIs("and goes to floor 0", x, 0, 1, -1, 0, 0);
    }

    private static void heldFor20Steps() {
        Check.sentence("If the curtain is broken and the door was open in fewer than 20 steps ahead of this one,"
                + " nothing more (that step counts as open)");
        for (int open = 0; open < 4; open++) {
            LiftGroup x = new LiftGroup();
            x.call(0, 1);
            x.step(4 + open);
            x.curtain(0, true);
            Check.same("held steps are told ahead", x.promise(0), 20 - open + 4 - open + 6 + 2 + 4);
            x.step(19 - open);
            Lifts.carIs("open in 19 steps, " + open + " of them whole", x, 0, 0, 0, 2, 4 - open);
            Check.same("one is told ahead", x.promise(0), 1 + 4 - open + 6 + 2 + 4);
            x.step(1);
            Lifts.carIs("in 20 steps", x, 0, 0, 0, 2, 4 - open);
            x.step(1);
            int left = 3 - open;
            Lifts.carIs("in 21 steps", x, 0, 0, 0, left == 0 ? 4 : 2, left == 0 ? 6 : left);
        }
    }

    private static void heldBrokenAndWhole() {
        Check.sentence("If the curtain is broken and the door was open in fewer than 20 steps ahead of this one,"
                + " nothing more (that step counts as open)");
        LiftGroup x = new LiftGroup();
        x.curtain(0, true);
        x.call(0, 1);
        x.step(4 + 5);
        x.curtain(0, false);
        x.step(2);
        Lifts.carIs("whole after 5 steps", x, 0, 0, 0, 2, 2);
        x.curtain(0, true);
        x.step(13);
        Lifts.carIs("broken again: 13 steps more", x, 0, 0, 0, 2, 2);
        x.step(1);
        Lifts.carIs("then no more", x, 0, 0, 0, 2, 1);
        LiftGroup y = Lifts.built(2, 1, 2);
        y.curtain(0, true);
        y.call(0, 1);
        y.step(4 + 20);
        y.call(0, 1);
        Lifts.riderIs("called", y, 1, 0, 0);
        y.step(1);
        Lifts.riderIs("held or not, riders are exchanged", y, 1, 1, 0);
    }

    private static void slowOrClosing() {
        Check.sentence("at 0 the door is CLOSING, 3 left, but SLOW, 6 left, if the curtain is broken");
        LiftGroup x = new LiftGroup();
        x.curtain(0, true);
        x.call(0, 1);
        x.step(4 + 20 + 3);
        Lifts.carIs("1 left", x, 0, 0, 0, 2, 1);
        x.step(1);
        Lifts.carIs("broken", x, 0, 0, 0, 4, 6);
        LiftGroup y = new LiftGroup();
        y.curtain(0, true);
        y.call(0, 1);
        y.step(4 + 20 + 3);
        y.curtain(0, false);
        y.step(1);
        Lifts.carIs("whole in the last step", y, 0, 0, 0, 3, 3);
        LiftGroup z = new LiftGroup();
        z.call(0, 1);
        z.step(4 + 3);
        Lifts.carIs("1 left", z, 0, 0, 0, 2, 1);
        z.step(1);
        Lifts.carIs("whole", z, 0, 0, 0, 3, 3);
    }

    private static void closingOpensAgain() {
        Check.sentence("with a broken curtain it is OPENING, 3 left; otherwise one less is left, and at 0 it is CLOSED");
        for (int left = 3; left >= 1; left--) {
            LiftGroup x = new LiftGroup();
            x.call(0, 1);
            x.step(11 - left);
            Lifts.carIs("closing", x, 0, 0, 0, 3, left);
            x.curtain(0, true);
            x.step(1);
            Lifts.carIs("with " + left + " left it opens again", x, 0, 0, 0, 1, 3);
            x.step(3);
            Lifts.carIs("open", x, 0, 0, 0, 2, 4);
            x.step(20);
            Lifts.carIs("and is held as long as ever", x, 0, 0, 0, 2, 4);
            x.step(1);
            Lifts.carIs("but no longer", x, 0, 0, 0, 2, 3);
        }
        LiftGroup y = new LiftGroup();
        y.call(0, 1);
        y.step(11);
        Lifts.carIs("closed", y, 0, 0, 0, 0, 0);
        y.curtain(0, true);
        y.step(1);
        Lifts.carIs("closed, it goes though the curtain is broken", y, 0, 1, 1, 0, 0);
    }

    private static void slowIsNotOpenedAgain() {
        Check.sentence("SLOW (4): one less is left, at 0 it is CLOSED");
        for (int whole = 0; whole < 2; whole++) {
            LiftGroup x = new LiftGroup();
            x.curtain(0, true);
            x.call(0, 1);
            x.step(4 + 20 + 4);
            for (int left = 6; left >= 1; left--) {
                Lifts.carIs("slow", x, 0, 0, 0, 4, left);
                x.curtain(0, whole == 0);
                x.step(1);
            }
            Lifts.carIs("closed", x, 0, 0, 0, 0, 0);
        }
    }

    private static void arriveByNumber() {
        Check.sentence("riders aboard whose floor this is arrive");
        LiftGroup x = Lifts.built(3, 1, 5);
        for (int r = 0; r < 5; r++) {
            x.call(0, r == 2 ? 2 : 1);
        }
        x.step(17);
        Check.same("all but one arrive", x.about(3), 4);
        Lifts.riderIs("another floor", x, 2, 1, 0);
        int[] due = {0, 1, 3, 4};
        for (int i = 0; i < 4; i++) {
            Lifts.eventIs(x, 10 + i, 17, 3, due[i], 0);
        }
    }

    private static void putOutAtFloor0Alone() {
        Check.sentence("in recall, at floor 0, all others aboard are put out");
        LiftGroup x = Lifts.built(3, 1, 5);
        for (int r = 0; r < 5; r++) {
            x.call(1, r == 3 ? 0 : 2);
        }
        x.step(6);
        x.recall(true);
        x.step(1);
        Check.same("at another floor no one is", x.car(0, 4), 5);
        x.step(6 + 2 + 3);
        Check.same("nor while it opens", x.car(0, 4), 5);
        x.step(1);
        Check.same("then all are", x.car(0, 4), 0);
        Lifts.eventIs(x, 10, 19, 3, 3, 0);
        int[] due = {0, 1, 2, 4};
        for (int i = 0; i < 4; i++) {
            Lifts.eventIs(x, 11 + i, 19, 4, due[i], 0);
        }
        x.recall(false);
        x.step(50);
        Check.same("and just once", x.about(2), 15);
    }

    private static void comeAboardWhileThereIsRoom() {
        Check.sentence("without recall, riders that wait here for it come aboard as long as there is room; each time by"
                + " number");
        LiftGroup x = Lifts.built(3, 1, 3);
        x.call(0, 1);
        x.step(4);
        x.call(1, 2);
        x.call(0, 2);
        x.call(0, 2);
        x.call(0, 2);
        x.step(1);
        Check.same("as many as there are places", x.car(0, 4), 3);
        Lifts.riderIs("the second of 3 that wait here", x, 3, 1, 0);
        Lifts.riderIs("the third", x, 4, 0, 0);
        Lifts.riderIs("one that waits elsewhere", x, 1, 0, 0);
        x.step(12);
        Lifts.riderIs("one has left", x, 0, 2, 0);
        Lifts.riderIs("one takes the place", x, 1, 1, 0);
        LiftGroup y = Lifts.built(2, 2, 1);
        y.call(0, 1);
        y.call(0, 1);
        y.fail(1, true);
        y.fail(1, false);
        Lifts.riderIs("waits for car 0 now", y, 1, 0, 0);
        y.step(4);
        Check.same("no one comes aboard of another car", y.car(1, 4), 0);
    }

    private static void noOneComesAboardInRecall() {
        Check.sentence("without recall, riders that wait here for it come aboard as long as there is room; each time by"
                + " number");
        LiftGroup x = Lifts.built(3, 1, 3);
        x.call(0, 1);
        x.recall(true);
        x.step(100);
        Lifts.carIs("open at the rider's floor", x, 0, 0, 0, 2, 4);
        Lifts.riderIs("in recall", x, 0, 0, -1);
        x.recall(false);
        Lifts.riderIs("after recall", x, 0, 0, 0);
        x.step(1);
        Lifts.riderIs("after recall and a step", x, 0, 1, 0);
    }

    private static void promiseOf1() {
        Check.sentence("how many steps the car would make, if nothing else happened, until the rider arrives: that step"
                + " counted");
        LiftGroup x = new LiftGroup();
        x.call(0, 1);
        for (int n = 17; n >= 1; n--) {
            Check.same("ahead", x.promise(0), n);
            Check.same("not arrived", x.rider(0, 0) == 2 ? 1 : 0, 0);
            x.step(1);
        }
        Check.same("arrived", x.rider(0, 0), 2);
        Check.same("no promise any more", x.promise(0), -1);
    }

    /** One car with a broken curtain and 24 riders: 1000 steps are not enough for all. */
    private static LiftGroup crowd() {
        LiftGroup x = Lifts.built(10, 1, 1);
        x.curtain(0, true);
        for (int r = 0; r < 24; r++) {
            x.call(9 * (r % 2), 9 - 9 * (r % 2));
        }
        return x;
    }

    private static int firstWithoutPromise(LiftGroup x) {
        for (int r = 0; r < x.about(1); r++) {
            if (x.promise(r) == -1 && x.rider(r, 0) != 2) {
                return r;
            }
        }
        return -1;
    }

    private static void promiseOf1000() {
        Check.sentence("none, if that is more than 1000");
        LiftGroup x = crowd();
        int last = firstWithoutPromise(x);
        Check.same("1001 or more", x.promise(last), -1);
        int made = 0;
        while (made < 3000 && x.promise(last) == -1) {
            x.step(1);
            made++;
        }
        Check.same("1000", x.promise(last), 1000);
        for (int i = 0; i < 999; i++) {
            x.step(1);
        }
        Check.same("1", x.promise(last), 1);
        Check.same("aboard", x.rider(last, 0), 1);
        x.step(1);
        Check.same("arrived", x.rider(last, 0), 2);
        Check.same("1000 steps after that", x.rider(last, 4), made + 1000);
    }

    private static void worstWithoutPromise() {
        Check.sentence("one without counts as 1000");
        LiftGroup x = crowd();
        for (int made = 0; made < 3000 && firstWithoutPromise(x) != -1; made++) {
            Check.same("one without", x.worst(0), 1000);
            x.step(1);
        }
        Check.same("all have one, one of 1000", x.worst(0), 1000);
        x.step(1);
        Check.same("one of 999", x.worst(0), 999);
        LiftGroup y = new LiftGroup();
        y.call(0, 1);
        y.step(4);
        y.fail(0, true);
        Check.same("aboard of a failed car", y.worst(0), 1000);
        y.fail(0, false);
        Check.same("repaired", y.worst(0), 13);
        y.recall(true);
        Check.same("to be put out", y.worst(0), 1000);
    }

    private static void worstWithoutRiders() {
        Check.sentence("0 without riders");
        LiftGroup x = Lifts.built(2, 2, 1);
        Check.same("from the beginning", x.worst(0), 0);
        x.call(0, 1);
        Check.same("one", x.worst(0), 17);
        Check.same("the other car", x.worst(1), 0);
        x.step(16);
        Check.same("1 step ahead", x.worst(0), 1);
        x.step(1);
        Check.same("arrived", x.worst(0), 0);
        x.fail(0, true);
        Check.same("failed, without riders", x.worst(0), 0);
        LiftGroup y = new LiftGroup();
        y.call(1, 0);
        y.lock(0, true);
        Check.same("the rider waits for none", y.worst(0), 0);
    }

    private static void leastGrowth() {
        Check.sentence("of the usable ones that whose worst grows least if the rider waits for it");
        LiftGroup x = Lifts.built(10, 2, 2);
        Check.same("17 each", x.call(0, 1), 0);
        Check.same("no growth, for there is room", x.call(0, 1), 0);
        Check.same("a growth of 17, or more for the full one", x.call(0, 1), 1);
        LiftGroup y = Lifts.built(10, 2, 1);
        y.lock(1, true);
        y.call(0, 9);
        y.lock(1, false);
        Check.same("of car 0", y.worst(0), 33);
        Check.same("by 19, for car 0 it were 40", y.call(1, 0), 1);
        Check.same("of car 1", y.worst(1), 19);
        LiftGroup z = Lifts.built(10, 2, 5);
        z.call(9, 8);
        Check.same("of car 0", z.worst(0), 35);
        Check.same("by 11, for car 1 it were 33", z.call(7, 9), 0);
        Check.same("though the worst is greater then", z.worst(0), 46);
    }

    private static void leastNumberOfSeveral() {
        Check.sentence("the least number of several");
        LiftGroup x = Lifts.built(10, 4, 5);
        Check.same("all as good", x.call(5, 0), 0);
        LiftGroup y = Lifts.built(10, 4, 5);
        y.lock(0, true);
        Check.same("all but the first", y.call(5, 0), 1);
        y.lock(0, false);
        y.lock(1, true);
        Lifts.riderIs("chosen anew", y, 0, 0, 0);
        LiftGroup z = Lifts.built(10, 4, 5);
        z.lock(0, true);
        z.lock(1, true);
        z.fail(2, true);
        Check.same("the last alone", z.call(5, 0), 3);
    }

    private static void noneIsUsable() {
        Check.sentence("none, if none is usable");
        LiftGroup x = new LiftGroup();
        x.call(1, 0);
        x.lock(0, true);
        Lifts.riderIs("locked", x, 0, 0, -1);
        Lifts.eventIs(x, 1, 0, 5, 0, -1);
        LiftGroup y = Lifts.built(2, 2, 1);
        y.call(1, 0);
        y.fail(1, true);
        Lifts.riderIs("another car failed", y, 0, 0, 0);
        y.fail(0, true);
        Lifts.riderIs("failed", y, 0, 0, -1);
        Lifts.eventIs(y, 1, 0, 5, 0, -1);
    }

    private static void chosenAgainByNumber() {
        Check.sentence("when a car is locked or fails, for all that waited for it, by number");
        for (int fails = 0; fails < 2; fails++) {
            LiftGroup x = Lifts.built(2, 2, 1);
            x.lock(0, true);
            Check.same("rider 0", x.call(0, 1), 1);
            Check.same("rider 1", x.call(0, 1), 1);
            x.lock(0, false);
            for (int r = 2; r < 5; r++) {
                Check.same("17, then as much as for car 1", x.call(0, 1), 0);
            }
            x.step(4);
            if (fails == 0) {
                x.lock(0, true);
            } else {
                x.fail(0, true);
            }
            Lifts.riderIs("aboard", x, 2, 1, 0);
            Lifts.riderIs("waits for the other car", x, 1, 0, 1);
            Check.same("two were chosen for", x.about(2), 9);
            Lifts.eventIs(x, 7, 4, 1, 3, 1);
            Lifts.eventIs(x, 8, 4, 1, 4, 1);
        }
    }

    private static void chosenWhenUsable() {
        Check.sentence("when a car that was locked or failed becomes usable");
        LiftGroup x = new LiftGroup();
        x.call(1, 0);
        x.call(1, 0);
        x.lock(0, true);
        x.fail(0, true);
        x.recall(true);
        Check.same("two got a car, and lost it", x.about(2), 4);
        x.lock(0, false);
        Lifts.riderIs("failed, and recall", x, 0, 0, -1);
        x.fail(0, false);
        Lifts.riderIs("recall", x, 0, 0, -1);
        x.lock(0, true);
        Check.same("no one was chosen for", x.about(2), 4);
        x.recall(false);
        Lifts.riderIs("locked", x, 0, 0, -1);
        x.fail(0, true);
        x.lock(0, false);
        Lifts.riderIs("failed", x, 0, 0, -1);
        x.step(3);
        int before = x.about(2);
        x.fail(0, false);
        Lifts.riderIs("usable", x, 0, 0, 0);
        Lifts.riderIs("usable", x, 1, 0, 0);
        Lifts.eventIs(x, before, 3, 1, 0, 0);
        Lifts.eventIs(x, before + 1, 3, 1, 1, 0);
        Check.refused("no more events", Lifts.INDEX, () -> x.event(before + 2, 0));
    }

    private static void chosenWhenRecallEnds() {
        Check.sentence("when recall ends, for all that wait for none, by number");
        LiftGroup x = Lifts.built(2, 2, 1);
        for (int r = 0; r < 4; r++) {
            x.call(1, 0);
        }
        x.recall(true);
        x.recall(false);
        Check.same("each got a car twice", x.about(2), 8);
        for (int r = 0; r < 4; r++) {
            Lifts.eventIs(x, 4 + r, 0, 1, r, r == 1 ? 1 : 0);
        }
        LiftGroup y = Lifts.built(2, 2, 1);
        y.recall(true);
        y.recall(false);
        Check.same("no riders, no events", y.about(2), 0);
    }

    private static void recallBegins() {
        Check.sentence("When recall begins, all riders that wait do so for none");
        LiftGroup x = Lifts.built(2, 3, 1);
        for (int r = 0; r < 5; r++) {
            x.call(r < 3 ? 0 : 1, r < 3 ? 1 : 0);
        }
        x.step(4);
        int events = x.about(2);
        x.recall(true);
        for (int r = 0; r < 3; r++) {
            Lifts.riderIs("aboard", x, r, 1, r);
        }
        Lifts.riderIs("waits", x, 3, 0, -1);
        Lifts.riderIs("waits", x, 4, 0, -1);
        Check.same("5 is not noted then", x.about(2), events);
    }

    private static void eventSteps() {
        Check.sentence("EVENTS are noted with their step (how many steps there were; that which is made counts)");
        LiftGroup x = new LiftGroup();
        x.call(0, 1);
        Lifts.eventIs(x, 0, 0, 1, 0, 0);
        x.step(17);
        Lifts.eventIs(x, 1, 4, 2, 0, 0);
        Lifts.eventIs(x, 2, 17, 3, 0, 0);
        x.call(1, 0);
        Lifts.eventIs(x, 3, 17, 1, 1, 0);
        x.step(1);
        Lifts.eventIs(x, 4, 18, 2, 1, 0);
        x.recall(true);
        x.step(200);
        Lifts.eventIs(x, 5, 30, 3, 1, 0);
    }

    private static void eventKinds() {
        Check.sentence("1 a rider gets a car, 2 comes aboard, 3 arrives, 4 is put out, 5 waits for none (but not at the"
                + " beginning of recall)");
        LiftGroup x = Lifts.built(2, 1, 1);
        x.call(0, 1);
        x.call(0, 1);
        x.step(17);
        x.lock(0, true);
        x.lock(0, false);
        x.step(13);
        x.recall(true);
        x.step(30);
        Check.same("events", x.about(2), 8);
        Lifts.eventIs(x, 0, 0, 1, 0, 0);
        Lifts.eventIs(x, 1, 0, 1, 1, 0);
        Lifts.eventIs(x, 2, 4, 2, 0, 0);
        Lifts.eventIs(x, 3, 17, 3, 0, 0);
        Lifts.eventIs(x, 4, 17, 5, 1, -1);
        Lifts.eventIs(x, 5, 17, 1, 1, 0);
        Lifts.eventIs(x, 6, 30, 2, 1, 0);
        Lifts.eventIs(x, 7, 31, 4, 1, 0);
    }

    /** A rider gets a car and loses it in turn: the n-th event is at step n / 2. */
    private static void last30Events() {
        Check.sentence("The last 30 are kept");
        LiftGroup x = new LiftGroup();
        Check.refused("none", Lifts.INDEX, () -> x.event(0, 0));
        x.call(1, 0);
        for (int n = 1; n <= 95; n++) {
            int kept = Math.min(n, 30);
            Check.same("in all", x.about(2), n);
            for (int i = 0; i < kept; i++) {
                int number = n - kept + i;
                Lifts.eventIs(x, i, number / 2, number % 2 == 0 ? 1 : 5, 0, number % 2 == 0 ? 0 : -1);
            }
            Check.refused("beyond the last of " + n, Lifts.INDEX, () -> x.event(kept, 0));
            Check.refused("ahead of the first of " + n, Lifts.INDEX, () -> x.event(-1, 0));
            x.lock(0, n % 2 == 1);
            x.step(n % 2);
        }
    }
}
