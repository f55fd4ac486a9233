import java.util.Random;

/** Long runs of calls, the same each time, on LiftGroup and on Model: all answers must agree. */
public final class AgainstModelTest {
    private static final int RUNS = 400;
    private static final int CALLS = 60;

    private final Random dice;
    private final LiftGroup real = new LiftGroup();
    private final Model model = new Model();
    private final StringBuilder story = new StringBuilder();
    private int floors = 2;
    private int cars = 1;

    private AgainstModelTest(int seed) {
        dice = new Random(seed);
        story.append("seed ").append(seed).append(':');
    }

    public static void main(String[] args) {
        for (int seed = 1; seed <= RUNS; seed++) {
            new AgainstModelTest(seed).run();
        }
        Check.end("AgainstModelTest");
    }

    private void run() {
        build();
        int busy = dice.nextInt(3);
        for (int i = 0; i < CALLS; i++) {
            act(busy);
            compareAll();
        }
    }

    private void act(int busy) {
        int chance = dice.nextInt(100);
        if (chance < 25 + 15 * busy) {
            both("call", dice.nextInt(floors + 1) - dice.nextInt(20) / 19, dice.nextInt(floors));
        } else if (chance < 75) {
            both("step", dice.nextInt(10) == 0 ? dice.nextInt(204) - 1 : dice.nextInt(12), 0);
        } else if (chance < 82) {
            both("curtain", someCar(), dice.nextInt(2));
        } else if (chance < 88) {
            both("lock", someCar(), dice.nextInt(2));
        } else if (chance < 94) {
            both("fail", someCar(), dice.nextInt(2));
        } else if (chance < 99) {
            both("recall", dice.nextInt(2), 0);
        } else {
            build();
        }
    }

    private int someCar() {
        return dice.nextInt(15) == 0 ? cars : dice.nextInt(cars);
    }

    private void build() {
        int f = 1 + dice.nextInt(11);
        int c = dice.nextInt(6);
        int p = dice.nextInt(7);
        story.append(" building ").append(f).append(' ').append(c).append(' ').append(p);
        String got = Check.answerOf(() -> {
            real.building(f, c, p);
            return 0;
        });
        String due = Check.answerOf(() -> {
            model.building(f, c, p);
            return 0;
        });
        Check.same(story.toString(), got, due);
        if (due.equals("0")) {
            floors = f;
            cars = c;
        }
    }

    private void both(String name, int a, int b) {
        story.append(' ').append(name).append(' ').append(a).append(' ').append(b);
        Check.same(story.toString(), Check.answerOf(() -> onReal(name, a, b)),
                Check.answerOf(() -> onModel(name, a, b)));
    }

    private long onReal(String name, int a, int b) {
        switch (name) {
            case "call": return real.call(a, b);
            case "step": real.step(a); return 0;
            case "curtain": real.curtain(a, b == 1); return 0;
            case "lock": real.lock(a, b == 1); return 0;
            case "fail": real.fail(a, b == 1); return 0;
            case "recall": real.recall(a == 1); return 0;
            case "car": return real.car(a, b);
            case "stop": return real.stop(a, b) ? 1 : 0;
            case "worst": return real.worst(a);
            case "rider": return real.rider(a, b);
            case "promise": return real.promise(a);
            case "event": return real.event(a, b);
            default: return real.about(a);
        }
    }

    private long onModel(String name, int a, int b) {
        switch (name) {
            case "call": return model.call(a, b);
            case "step": model.step(a); return 0;
            case "curtain": model.curtain(a, b == 1); return 0;
            case "lock": model.lock(a, b == 1); return 0;
            case "fail": model.fail(a, b == 1); return 0;
            case "recall": model.recall(a == 1); return 0;
            case "car": return model.car(a, b);
            case "stop": return model.stop(a, b) ? 1 : 0;
            case "worst": return model.worst(a);
            case "rider": return model.rider(a, b);
            case "promise": return model.promise(a);
            case "event": return model.event(a, b);
            default: return model.about(a);
        }
    }

    private void compareAll() {
        compareRows("car", cars, 6);
        compareRows("stop", cars, floors);
        compareRows("worst", cars, 0);
        compareRows("rider", model.about(1), 5);
        compareRows("promise", model.about(1), 0);
        compareRows("event", Math.min(30, model.about(2)), 4);
        compareRows("about", 6, 0);
    }

    /** One row and one column too many on each side, for the refusals. */
    private void compareRows(String name, int rows, int columns) {
        for (int a = -1; a <= rows; a++) {
            for (int b = -1; b <= columns; b++) {
                int row = a;
                int column = b;
                String got = Check.answerOf(() -> onReal(name, row, column));
                String due = Check.answerOf(() -> onModel(name, row, column));
                if (!got.equals(due)) {
                    Check.same(story + " then " + name + " " + row + " " + column, got, due);
                }
            }
        }
    }
}
