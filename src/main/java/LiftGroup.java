import java.util.NoSuchElementException;

/**
 * A group of lifts: riders key where they want to go and are given a car, cars go up and down by
 * one rule with doors that take their time, and what is told ahead of a rider's way is what comes.
 *
 * <p>A set of riders, or of heights, is an int with one bit for each, so that a car's way can be
 * tried ahead on a copy of a few numbers, without a new object.
 */
public final class LiftGroup {
    public static final int NONE = -1;

    private static final int MOST_FLOORS = 10;
    private static final int MOST_CARS = 4;
    private static final int MOST_PLACES = 5;
    private static final int MOST_RIDERS = 24;
    private static final int MOST_STEPS = 200;
    private static final int LONGEST_PROMISE = 1000;

    private static final int WAITS = 0;
    private static final int ABOARD = 1;
    private static final int ARRIVED = 2;
    private static final int PUT_OUT = 3;

    private static final int GETS_CAR = 1;
    private static final int COMES_ABOARD = 2;
    private static final int ARRIVES = 3;
    private static final int IS_PUT_OUT = 4;
    private static final int WAITS_FOR_NONE = 5;

    private final House house;
    private final Car[] cars;
    private final Car trial;
    private final Rider[] riders;
    private final Log log;
    private int carCount;
    private int riderCount;
    private int waitingForNone;
    private int stepCount;
    private int arrivedCount;
    private int longestRide;
    private int allRides;

    public LiftGroup() {
        house = new House();
        cars = new Car[MOST_CARS];
        for (int i = 0; i < MOST_CARS; i++) {
            cars[i] = new Car();
        }
        trial = new Car();
        riders = new Rider[MOST_RIDERS];
        for (int i = 0; i < MOST_RIDERS; i++) {
            riders[i] = new Rider();
        }
        log = new Log();
        startAnew(2, 1, 1);
    }

    /** A new building: all that was before is gone. */
    public void building(int floors, int cars, int places) throws IllegalArgumentException {
        if (floors < 2 || floors > MOST_FLOORS) {
            throw new IllegalArgumentException("there must be 2 to 10 floors");
        }
        if (cars < 1 || cars > MOST_CARS) {
            throw new IllegalArgumentException("there must be 1 to 4 cars");
        }
        if (places < 1 || places > MOST_PLACES) {
            throw new IllegalArgumentException("there must be 1 to 5 places");
        }
        startAnew(floors, cars, places);
    }

    /** A rider calls; answers the car that was chosen. */
    public int call(int from, int to)
            throws IllegalArgumentException, IllegalStateException, UnsupportedOperationException {
        if (!isFloor(from) || !isFloor(to) || from == to) {
            throw new IllegalArgumentException("a rider goes from one floor to another");
        }
        if (!anyUsable()) {
            throw new IllegalStateException("no car is usable");
        }
        if (riderCount >= MOST_RIDERS) {
            throw new UnsupportedOperationException("there were 24 riders");
        }
        int number = riderCount;
        riderCount++;
        riders[number].begin(from, to, stepCount);
        house.addRider(1 << number, from, to);
        chooseCar(number);
        return riders[number].carNumber;
    }

    /** Makes n steps. */
    public void step(int n) throws IllegalArgumentException {
        if (n < 0 || n > MOST_STEPS) {
            throw new IllegalArgumentException("there must be 0 to 200 steps");
        }
        for (int i = 0; i < n; i++) {
            stepCount++;
            for (int c = 0; c < carCount; c++) {
                if (!cars[c].failed) {
                    cars[c].advance(house);
                    noteExchange(c);
                }
            }
        }
    }

    /** A car's curtain is broken, or whole. */
    public void curtain(int car, boolean broken) throws NoSuchElementException {
        carNumbered(car).curtainBroken = broken;
    }

    /** A car is locked, or no more. */
    public void lock(int car, boolean on) throws NoSuchElementException {
        Car it = carNumbered(car);
        if (it.locked != on) {
            it.locked = on;
            chooseForAll(on ? takeWaitingFor(it) : takeWaitingForNoneIfUsable(it));
        }
    }

    /** A car fails, or is repaired. */
    public void fail(int car, boolean on) throws NoSuchElementException {
        Car it = carNumbered(car);
        if (it.failed != on) {
            it.failed = on;
            chooseForAll(on ? takeWaitingFor(it) : takeWaitingForNoneIfUsable(it));
        }
    }

    /** Recall begins, or ends. */
    public void recall(boolean on) {
        if (house.recalled == on) {
            return;
        }
        house.recalled = on;
        if (on) {
            takeCarsFromWaiting();
        } else {
            chooseForAll(takeWaitingForNone());
        }
    }

    /** Of a car: 0 height, 1 direction, 2 door, 3 left, 4 how many are aboard, 5 its faults. */
    public int car(int car, int what) throws NoSuchElementException, IllegalArgumentException {
        Car it = carNumbered(car);
        switch (what) {
            case 0:
                return it.height;
            case 1:
                return it.direction;
            case 2:
                return it.door;
            case 3:
                return it.left;
            case 4:
                return Integer.bitCount(it.aboard);
            case 5:
                return (it.locked ? 1 : 0) + (it.failed ? 2 : 0) + (it.curtainBroken ? 4 : 0);
            default:
                throw new IllegalArgumentException("of a car only 0 to 5 can be asked");
        }
    }

    /** Whether a floor is a stop of a car. */
    public boolean stop(int car, int floor) throws NoSuchElementException, IllegalArgumentException {
        Car it = carNumbered(car);
        if (!isFloor(floor)) {
            throw new IllegalArgumentException("there is no such floor");
        }
        return (it.stopSet(house) & (1 << 2 * floor)) != 0;
    }

    /** The greatest promise of a car's riders. */
    public int worst(int car) throws NoSuchElementException {
        return worstWith(carNumbered(car), 0);
    }

    /** Of a rider: 0 state, 1 car, 2 from, 3 to, 4 steps since the call. */
    public int rider(int rider, int what) throws NoSuchElementException, IllegalArgumentException {
        Rider it = riderNumbered(rider);
        switch (what) {
            case 0:
                return it.state;
            case 1:
                return it.carNumber;
            case 2:
                return it.from;
            case 3:
                return it.to;
            case 4:
                return it.ended() ? it.ride : stepCount - it.calledAt;
            default:
                throw new IllegalArgumentException("of a rider only 0 to 4 can be asked");
        }
    }

    /** How many steps it takes until a rider arrives, if nothing else happens. */
    public int promise(int rider) throws NoSuchElementException {
        Rider it = riderNumbered(rider);
        if (it.ended() || it.carNumber == NONE || cars[it.carNumber].failed) {
            return NONE;
        }
        trial.becomeLike(cars[it.carNumber]);
        int self = 1 << rider;
        for (int n = 1; n <= LONGEST_PROMISE; n++) {
            trial.advance(house);
            if ((trial.arrived & self) != 0) {
                return n;
            }
            if ((trial.putOut & self) != 0) {
                return NONE;
            }
        }
        return NONE;
    }

    /** Of the i-th event kept: 0 step, 1 kind, 2 rider, 3 car. */
    public int event(int i, int what) throws IndexOutOfBoundsException, IllegalArgumentException {
        if (i < 0 || i >= log.keptCount()) {
            throw new IndexOutOfBoundsException("no such event is kept");
        }
        int place = log.placeOf(i);
        switch (what) {
            case 0:
                return log.stepNumbers[place];
            case 1:
                return log.kinds[place];
            case 2:
                return log.riderNumbers[place];
            case 3:
                return log.carNumbers[place];
            default:
                throw new IllegalArgumentException("of an event only 0 to 3 can be asked");
        }
    }

    /** Of the group: 0 steps, 1 riders, 2 events, 3 arrived, 4 their longest ride, 5 all rides. */
    public int about(int what) {
        switch (what) {
            case 0:
                return stepCount;
            case 1:
                return riderCount;
            case 2:
                return log.count;
            case 3:
                return arrivedCount;
            case 4:
                return longestRide;
            case 5:
                return allRides;
            default:
                return NONE;
        }
    }

    private void startAnew(int floors, int howManyCars, int places) {
        house.startAnew(floors, places);
        for (int i = 0; i < MOST_CARS; i++) {
            cars[i].startAnew();
        }
        log.count = 0;
        carCount = howManyCars;
        riderCount = 0;
        waitingForNone = 0;
        stepCount = 0;
        arrivedCount = 0;
        longestRide = 0;
        allRides = 0;
    }

    private Car carNumbered(int number) {
        if (number < 0 || number >= carCount) {
            throw new NoSuchElementException("there is no such car");
        }
        return cars[number];
    }

    private Rider riderNumbered(int number) {
        if (number < 0 || number >= riderCount) {
            throw new NoSuchElementException("there is no such rider");
        }
        return riders[number];
    }

    private boolean isFloor(int floor) {
        return floor >= 0 && floor < house.floors;
    }

    private boolean isUsable(Car it) {
        return !it.locked && !it.failed && !house.recalled;
    }

    private boolean anyUsable() {
        for (int c = 0; c < carCount; c++) {
            if (isUsable(cars[c])) {
                return true;
            }
        }
        return false;
    }

    private int takeWaitingFor(Car it) {
        int taken = it.waiting;
        it.waiting = 0;
        return taken;
    }

    private int takeWaitingForNoneIfUsable(Car it) {
        return isUsable(it) ? takeWaitingForNone() : 0;
    }

    /** The riders that wait for none; choosing puts those back for whom there is still no car. */
    private int takeWaitingForNone() {
        int taken = waitingForNone;
        waitingForNone = 0;
        return taken;
    }

    private void takeCarsFromWaiting() {
        for (int c = 0; c < carCount; c++) {
            waitingForNone |= takeWaitingFor(cars[c]);
        }
        for (int r = 0; r < riderCount; r++) {
            if (riders[r].state == WAITS) {
                riders[r].carNumber = NONE;
            }
        }
    }

    private void chooseForAll(int riderSet) {
        for (int r = 0; r < riderCount; r++) {
            if ((riderSet & (1 << r)) != 0) {
                chooseCar(r);
            }
        }
    }

    private void chooseCar(int number) {
        int self = 1 << number;
        int best = NONE;
        int leastGrowth = 0;
        for (int c = 0; c < carCount; c++) {
            if (isUsable(cars[c])) {
                int growth = worstWith(cars[c], self) - worstWith(cars[c], 0);
                if (best == NONE || growth < leastGrowth) {
                    best = c;
                    leastGrowth = growth;
                }
            }
        }
        riders[number].carNumber = best;
        if (best == NONE) {
            waitingForNone |= self;
            log.note(stepCount, WAITS_FOR_NONE, number, NONE);
        } else {
            cars[best].waiting |= self;
            log.note(stepCount, GETS_CAR, number, best);
        }
    }

    /** The worst of a car if the riders of a set waited for it too. */
    private int worstWith(Car it, int moreWaiting) {
        trial.becomeLike(it);
        trial.waiting |= moreWaiting;
        if (!trial.hasRiders()) {
            return 0;
        }
        if (it.failed) {
            return LONGEST_PROMISE;
        }
        for (int n = 1; n <= LONGEST_PROMISE; n++) {
            trial.advance(house);
            if (trial.putOut != 0) {
                return LONGEST_PROMISE;
            }
            if (!trial.hasRiders()) {
                return n;
            }
        }
        return LONGEST_PROMISE;
    }

    /** Tells the riders and the log what a car's step has done to those in it and before it. */
    private void noteExchange(int c) {
        Car it = cars[c];
        if (it.arrived != 0) {
            noteAll(it.arrived, ARRIVES, c);
        }
        if (it.putOut != 0) {
            noteAll(it.putOut, IS_PUT_OUT, c);
        }
        if (it.boarded != 0) {
            noteAll(it.boarded, COMES_ABOARD, c);
        }
    }

    private void noteAll(int riderSet, int kind, int c) {
        for (int r = 0; r < riderCount; r++) {
            if ((riderSet & (1 << r)) != 0) {
                changeRider(riders[r], kind);
                log.note(stepCount, kind, r, c);
            }
        }
    }

    private void changeRider(Rider it, int kind) {
        if (kind == COMES_ABOARD) {
            it.state = ABOARD;
            return;
        }
        it.state = kind == ARRIVES ? ARRIVED : PUT_OUT;
        it.ride = stepCount - it.calledAt;
        if (kind == ARRIVES) {
            arrivedCount++;
            longestRide = Math.max(longestRide, it.ride);
            allRides += it.ride;
        }
    }

    /** What all cars share: the building, its recall, and where each rider starts and goes. */
    private static final class House {
        final int[] startingAt = new int[MOST_FLOORS];
        final int[] goingTo = new int[MOST_FLOORS];
        int floors;
        int places;
        boolean recalled;

        void startAnew(int howManyFloors, int howManyPlaces) {
            floors = howManyFloors;
            places = howManyPlaces;
            recalled = false;
            for (int f = 0; f < MOST_FLOORS; f++) {
                startingAt[f] = 0;
                goingTo[f] = 0;
            }
        }

        void addRider(int self, int from, int to) {
            startingAt[from] |= self;
            goingTo[to] |= self;
        }
    }

    /** A rider as it is told; who waits for a car or is aboard stands in the car's own sets. */
    private static final class Rider {
        int from;
        int to;
        int state;
        int carNumber;
        int calledAt;
        int ride;

        void begin(int start, int goal, int stepNumber) {
            from = start;
            to = goal;
            state = WAITS;
            carNumber = NONE;
            calledAt = stepNumber;
            ride = 0;
        }

        boolean ended() {
            return state == ARRIVED || state == PUT_OUT;
        }
    }

    /** The last events, written round in rows of fixed length. */
    private static final class Log {
        private static final int KEPT = 30;

        final int[] stepNumbers = new int[KEPT];
        final int[] kinds = new int[KEPT];
        final int[] riderNumbers = new int[KEPT];
        final int[] carNumbers = new int[KEPT];
        int count;

        void note(int stepNumber, int kind, int riderNumber, int carNumber) {
            int place = count % KEPT;
            stepNumbers[place] = stepNumber;
            kinds[place] = kind;
            riderNumbers[place] = riderNumber;
            carNumbers[place] = carNumber;
            count++;
        }

        int keptCount() {
            return Math.min(count, KEPT);
        }

        int placeOf(int i) {
            return (count - keptCount() + i) % KEPT;
        }
    }

    /** A car and the rule by which it makes its steps; the real ones and the trial alike. */
    private static final class Car {
        private static final int CLOSED = 0;
        private static final int OPENING = 1;
        private static final int OPEN = 2;
        private static final int CLOSING = 3;
        private static final int SLOW = 4;

        private static final int OPENING_STEPS = 3;
        private static final int OPEN_STEPS = 4;
        private static final int CLOSING_STEPS = 3;
        private static final int SLOW_STEPS = 6;
        private static final int HELD_OPEN_STEPS = 20;

        private static final int MOST_HEIGHT = 2 * (MOST_FLOORS - 1);

        int height;
        int direction;
        int door;
        int left;
        int stepsOpen;
        boolean locked;
        boolean failed;
        boolean curtainBroken;
        int aboard;
        int waiting;
        // Whom the last step has moved, for the caller to note: a trial must leave no trace.
        int arrived;
        int putOut;
        int boarded;

        void startAnew() {
            height = 0;
            direction = 0;
            door = CLOSED;
            left = 0;
            stepsOpen = 0;
            locked = false;
            failed = false;
            curtainBroken = false;
            aboard = 0;
            waiting = 0;
            forgetMoved();
        }

        /** Takes over all that bears on a car's further way. */
        void becomeLike(Car other) {
            height = other.height;
            direction = other.direction;
            door = other.door;
            left = other.left;
            stepsOpen = other.stepsOpen;
            curtainBroken = other.curtainBroken;
            aboard = other.aboard;
            waiting = other.waiting;
        }

        boolean hasRiders() {
            return (aboard | waiting) != 0;
        }

        /** The heights of the floors that are stops. */
        int stopSet(House house) {
            if (house.recalled) {
                return 1;
            }
            if (!hasRiders()) {
                return 0;
            }
            int fetched = Integer.bitCount(aboard) < house.places ? waiting : 0;
            int stops = 0;
            for (int f = 0; f < house.floors; f++) {
                if ((aboard & house.goingTo[f]) != 0 || (fetched & house.startingAt[f]) != 0) {
                    stops |= 1 << 2 * f;
                }
            }
            return stops;
        }

        void advance(House house) {
            forgetMoved();
            switch (door) {
                case CLOSED:
                    openOrMove(stopSet(house));
                    break;
                case OPENING:
                    left--;
                    if (left == 0) {
                        turnDoor(OPEN, OPEN_STEPS);
                        stepsOpen = 0;
                        exchange(house);
                    }
                    break;
                case OPEN:
                    exchange(house);
                    stayOpen(house.recalled && height == 0);
                    break;
                case CLOSING:
                    if (curtainBroken) {
                        turnDoor(OPENING, OPENING_STEPS);
                    } else {
                        shutFurther();
                    }
                    break;
                default:
                    shutFurther();
                    break;
            }
        }

        private void forgetMoved() {
            arrived = 0;
            putOut = 0;
            boarded = 0;
        }

        private void turnDoor(int newDoor, int steps) {
            door = newDoor;
            left = steps;
        }

        private void shutFurther() {
            left--;
            if (left == 0) {
                door = CLOSED;
            }
        }

        private void openOrMove(int stops) {
            if (stops == 0) {
                direction = 0;
                return;
            }
            if ((stops & (1 << height)) != 0) {
                turnDoor(OPENING, OPENING_STEPS);
                return;
            }
            if (direction == 0) {
                direction = towardsNearest(stops);
            } else if (!liesAhead(stops)) {
                direction = -direction;
            }
            height += direction;
        }

        /** Asks below first, for down is to win where both are as near. */
        private int towardsNearest(int stops) {
            for (int gap = 1; gap <= MOST_HEIGHT; gap++) {
                if (gap <= height && (stops & (1 << height - gap)) != 0) {
                    return -1;
                }
                if (gap <= MOST_HEIGHT - height && (stops & (1 << height + gap)) != 0) {
                    return 1;
                }
            }
            return 0;
        }

        private boolean liesAhead(int stops) {
            int below = stops & ((1 << height) - 1);
            return direction < 0 ? below != 0 : below != stops;
        }

        private void stayOpen(boolean recalledHere) {
            boolean held = curtainBroken && stepsOpen < HELD_OPEN_STEPS;
            stepsOpen++;
            if (recalledHere || held) {
                return;
            }
            left--;
            if (left == 0) {
                if (curtainBroken) {
                    turnDoor(SLOW, SLOW_STEPS);
                } else {
                    turnDoor(CLOSING, CLOSING_STEPS);
                }
            }
        }

        private void exchange(House house) {
            int floor = height / 2;
            arrived = aboard & house.goingTo[floor];
            aboard &= ~arrived;
            if (!house.recalled) {
                int room = house.places - Integer.bitCount(aboard);
                boarded = firstOf(waiting & house.startingAt[floor], room);
                aboard |= boarded;
                waiting &= ~boarded;
            } else if (floor == 0) {
                putOut = aboard;
                aboard = 0;
            }
        }

        /** As many of a set as there is room for, those with the least numbers. */
        private static int firstOf(int riderSet, int room) {
            int taken = 0;
            for (int r = 0; r < MOST_RIDERS && room > 0; r++) {
                int one = riderSet & (1 << r);
                if (one != 0) {
                    taken |= one;
                    room--;
                }
            }
            return taken;
        }
    }
}
