import java.util.ArrayList;
import java.util.Arrays;
import java.util.List;
import java.util.NoSuchElementException;

/**
 * The document told again in the slowest and plainest way, apart from LiftGroup: riders know all
 * about themselves, cars know nothing of riders, and a look ahead copies the whole world.
 */
final class Model {
    static final int CLOSED = 0;
    static final int OPENING = 1;
    static final int OPEN = 2;
    static final int CLOSING = 3;
    static final int SLOW = 4;

    static final class Car {
        int height;
        int direction;
        int door;
        int left;
        int wasOpen;
        boolean locked;
        boolean failed;
        boolean broken;

        Car copy() {
            Car c = new Car();
            c.height = height;
            c.direction = direction;
            c.door = door;
            c.left = left;
            c.wasOpen = wasOpen;
            c.locked = locked;
            c.failed = failed;
            c.broken = broken;
            return c;
        }
    }

    static final class Rider {
        final int from;
        final int to;
        final int called;
        int state;
        int car = -1;
        int ended = -1;

        Rider(int from, int to, int called) {
            this.from = from;
            this.to = to;
            this.called = called;
        }

        Rider copy() {
            Rider r = new Rider(from, to, called);
            r.state = state;
            r.car = car;
            r.ended = ended;
            return r;
        }
    }

    private int floors = 2;
    private int places = 1;
    private boolean recall;
    private int steps;
    private List<Car> cars = new ArrayList<>(List.of(new Car()));
    private List<Rider> riders = new ArrayList<>();
    private List<int[]> events = new ArrayList<>();

    private Model copy() {
        Model m = new Model();
        m.floors = floors;
        m.places = places;
        m.recall = recall;
        m.steps = steps;
        m.cars = new ArrayList<>();
        for (Car c : cars) {
            m.cars.add(c.copy());
        }
        m.riders = new ArrayList<>();
        for (Rider r : riders) {
            m.riders.add(r.copy());
        }
        return m;
    }

    void building(int floors, int cars, int places) {
        if (floors < 2 || floors > 10 || cars < 1 || cars > 4 || places < 1 || places > 5) {
            throw new IllegalArgumentException();
        }
        this.floors = floors;
        this.places = places;
        this.cars = new ArrayList<>();
        for (int i = 0; i < cars; i++) {
            this.cars.add(new Car());
        }
        recall = false;
        steps = 0;
        riders = new ArrayList<>();
        events = new ArrayList<>();
    }

    int call(int from, int to) {
        if (from < 0 || from >= floors || to < 0 || to >= floors || from == to) {
            throw new IllegalArgumentException();
        }
        if (cars.stream().noneMatch(this::usable)) {
            throw new IllegalStateException();
        }
        if (riders.size() == 24) {
            throw new UnsupportedOperationException();
        }
        riders.add(new Rider(from, to, steps));
        choose(riders.size() - 1);
        return riders.get(riders.size() - 1).car;
    }

    void step(int n) {
        if (n < 0 || n > 200) {
            throw new IllegalArgumentException();
        }
        for (int i = 0; i < n; i++) {
            steps++;
            for (int c = 0; c < cars.size(); c++) {
                stepOf(c);
            }
        }
    }

    void curtain(int car, boolean broken) {
        at(car).broken = broken;
    }

    void lock(int car, boolean on) {
        Car c = at(car);
        if (c.locked == on) {
            return;
        }
        c.locked = on;
        changed(car, on);
    }

    void fail(int car, boolean on) {
        Car c = at(car);
        if (c.failed == on) {
            return;
        }
        c.failed = on;
        changed(car, on);
    }

    private void changed(int car, boolean on) {
        if (on) {
            chooseForThoseThatWaitFor(car);
        } else if (usable(cars.get(car))) {
            chooseForThoseThatWaitFor(-1);
        }
    }

    void recall(boolean on) {
        if (recall == on) {
            return;
        }
        recall = on;
        if (!on) {
            chooseForThoseThatWaitFor(-1);
            return;
        }
        for (Rider r : riders) {
            if (r.state == 0) {
                r.car = -1;
            }
        }
    }

    int car(int car, int what) {
        Car c = at(car);
        int faults = (c.locked ? 1 : 0) | (c.failed ? 2 : 0) | (c.broken ? 4 : 0);
        int[] all = {c.height, c.direction, c.door, c.door == CLOSED ? 0 : c.left, aboard(car), faults};
        return pick(all, what);
    }

    boolean stop(int car, int floor) {
        at(car);
        if (floor < 0 || floor >= floors) {
            throw new IllegalArgumentException();
        }
        return isStop(car, floor);
    }

    int worst(int car) {
        at(car);
        int worst = 0;
        for (int r = 0; r < riders.size(); r++) {
            if (riders.get(r).state <= 1 && riders.get(r).car == car) {
                int p = promise(r);
                worst = Math.max(worst, p == -1 ? 1000 : p);
            }
        }
        return worst;
    }

    int rider(int rider, int what) {
        Rider r = riderAt(rider);
        int taken = (r.ended == -1 ? steps : r.ended) - r.called;
        return pick(new int[] {r.state, r.car, r.from, r.to, taken}, what);
    }

    int promise(int rider) {
        Rider r = riderAt(rider);
        if (r.state > 1 || r.car == -1) {
            return -1;
        }
        Model ahead = copy();
        Rider there = ahead.riders.get(rider);
        for (int n = 1; n <= 1000; n++) {
            ahead.stepOf(r.car);
            if (there.state == 2) {
                return n;
            }
        }
        return -1;
    }

    int event(int i, int what) {
        int first = Math.max(0, events.size() - 30);
        if (i < 0 || i > 29 || first + i >= events.size()) {
            throw new IndexOutOfBoundsException();
        }
        return pick(events.get(first + i), what);
    }

    int about(int what) {
        int[] taken = riders.stream().filter(r -> r.state == 2).mapToInt(r -> r.ended - r.called).toArray();
        int most = Arrays.stream(taken).max().orElse(0);
        int sum = Arrays.stream(taken).sum();
        int[] all = {steps, riders.size(), events.size(), taken.length, most, sum};
        return what < 0 || what >= all.length ? -1 : all[what];
    }

    private static int pick(int[] all, int what) {
        if (what < 0 || what >= all.length) {
            throw new IllegalArgumentException();
        }
        return all[what];
    }

    private Car at(int car) {
        if (car < 0 || car >= cars.size()) {
            throw new NoSuchElementException();
        }
        return cars.get(car);
    }

    private Rider riderAt(int rider) {
        if (rider < 0 || rider >= riders.size()) {
            throw new NoSuchElementException();
        }
        return riders.get(rider);
    }

    private boolean usable(Car c) {
        return !c.locked && !c.failed && !recall;
    }

    private int aboard(int car) {
        return (int) riders.stream().filter(r -> r.state == 1 && r.car == car).count();
    }

    private boolean isStop(int car, int floor) {
        if (recall) {
            return floor == 0;
        }
        boolean room = aboard(car) < places;
        for (Rider r : riders) {
            if (r.car == car && (r.state == 1 && r.to == floor || room && r.state == 0 && r.from == floor)) {
                return true;
            }
        }
        return false;
    }

    private void chooseForThoseThatWaitFor(int car) {
        List<Integer> those = new ArrayList<>();
        for (int r = 0; r < riders.size(); r++) {
            if (riders.get(r).state == 0 && riders.get(r).car == car) {
                those.add(r);
            }
        }
        for (int r : those) {
            choose(r);
        }
    }

    private void choose(int rider) {
        Rider r = riders.get(rider);
        int chosen = -1;
        int least = Integer.MAX_VALUE;
        for (int c = 0; c < cars.size(); c++) {
            if (usable(cars.get(c))) {
                r.car = -1;
                int without = worst(c);
                r.car = c;
                int growth = worst(c) - without;
                if (growth < least) {
                    least = growth;
                    chosen = c;
                }
            }
        }
        r.car = chosen;
        note(chosen == -1 ? 5 : 1, rider);
    }

    private void note(int kind, int rider) {
        events.add(new int[] {steps, kind, rider, riders.get(rider).car});
    }

    private void stepOf(int car) {
        Car c = cars.get(car);
        if (c.failed) {
            return;
        }
        if (c.door == CLOSED) {
            stepClosed(car, c);
        } else if (c.door == OPENING) {
            if (--c.left == 0) {
                c.door = OPEN;
                c.left = 4;
                c.wasOpen = 0;
                exchange(car);
            }
        } else if (c.door == OPEN) {
            stepOpen(car, c);
        } else if (c.door == CLOSING && c.broken) {
            c.door = OPENING;
            c.left = 3;
        } else if (--c.left == 0) {
            c.door = CLOSED;
        }
    }

    private void stepOpen(int car, Car c) {
        int ahead = c.wasOpen++;
        exchange(car);
        if (recall && c.height == 0) {
            return;
        }
        if (c.broken && ahead < 20) {
            return;
        }
        if (--c.left == 0) {
            c.door = c.broken ? SLOW : CLOSING;
            c.left = c.broken ? 6 : 3;
        }
    }

    private void stepClosed(int car, Car c) {
        int above = Integer.MAX_VALUE;
        int below = Integer.MAX_VALUE;
        for (int f = 0; f < floors; f++) {
            if (isStop(car, f)) {
                int gap = 2 * f - c.height;
                if (gap == 0) {
                    c.door = OPENING;
                    c.left = 3;
                    return;
                }
                if (gap > 0) {
                    above = Math.min(above, gap);
                } else {
                    below = Math.min(below, -gap);
                }
            }
        }
        if (above == Integer.MAX_VALUE && below == Integer.MAX_VALUE) {
            c.direction = 0;
            return;
        }
        if (c.direction == 0) {
            c.direction = above < below ? 1 : -1;
        } else if ((c.direction == 1 ? above : below) == Integer.MAX_VALUE) {
            c.direction = -c.direction;
        }
        c.height += c.direction;
    }

    private void exchange(int car) {
        int floor = cars.get(car).height / 2;
        for (int r = 0; r < riders.size(); r++) {
            if (riders.get(r).state == 1 && riders.get(r).car == car && riders.get(r).to == floor) {
                become(r, 2, 3);
            }
        }
        for (int r = 0; r < riders.size(); r++) {
            if (recall && floor == 0 && riders.get(r).state == 1 && riders.get(r).car == car) {
                become(r, 3, 4);
            }
        }
        for (int r = 0; r < riders.size(); r++) {
            Rider it = riders.get(r);
            if (!recall && it.state == 0 && it.car == car && it.from == floor && aboard(car) < places) {
                become(r, 1, 2);
            }
        }
    }

    private void become(int rider, int state, int kind) {
        riders.get(rider).state = state;
        if (state > 1) {
            riders.get(rider).ended = steps;
        }
        note(kind, rider);
    }
}
