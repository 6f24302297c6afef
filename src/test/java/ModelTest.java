import java.util.Random;

/** Runs that are drawn from a fixed seed, each call compared with the Model. */
final class ModelTest {
    private static final int RUNS = 6000;
    /** What later calls answer is free. */
    private static final int CALLS = 512;
    private static final int CALLS_TO_READ_ALL = 60;
    private static final int MOST_CALLS_AT_ONCE = 8;
    private static final double[] ODD = {
        Double.NaN, Double.POSITIVE_INFINITY, Double.NEGATIVE_INFINITY, -0.0, 0, Double.MIN_VALUE,
        -Double.MIN_VALUE, Double.MAX_VALUE, -Double.MAX_VALUE, 1, -1, 0.5, 3, 9, 60, 70, 200, 250, 100000
    };

    private final Check check;
    private final Random drawn;
    private final int[] modes = new int[7];
    private final int[] stages = new int[4];
    private AssistRows a;
    private Model model;
    private double now;
    private double own;
    private double spread;
    private int run;
    private int calls;

    private ModelTest(Check check, long seed) {
        this.check = check;
        this.drawn = new Random(seed);
    }

    public static void main(String[] args) {
        Check check = new Check("ModelTest");
        ModelTest test = new ModelTest(check, 20261118L);
        for (int run = 0; run < RUNS; run++) {
            test.runOne(run);
        }
        for (int n : test.modes) {
            check.holds("every mode was met", n > 100);
        }
        for (int n : test.stages) {
            check.holds("every stage was met", n > 100);
        }
        check.end();
    }

    private void runOne(int number) {
        run = number;
        a = new AssistRows();
        model = new Model();
        now = 0;
        own = drawn.nextInt(8) * 5;
        spread = new double[] {2, 6, 12, 40, 200}[number % 5];
        calls = 0;
        while (calls + MOST_CALLS_AT_ONCE + CALLS_TO_READ_ALL <= CALLS) {
            oneCall();
        }
        readAll();
        check.holds("run " + run + " asks no more than the document promises", calls <= CALLS);
    }

    private boolean rarely() {
        return drawn.nextInt(40) == 0;
    }

    private double odd() {
        return ODD[drawn.nextInt(ODD.length)];
    }

    /** Coarse numbers meet edges and equal sums, fine ones meet rounding. */
    private double number(double low, double high) {
        if (rarely()) {
            return odd();
        }
        double v = low + drawn.nextDouble() * (high - low);
        return drawn.nextInt(3) == 0 ? v : Math.rint(v * 4) / 4;
    }

    private int index(int low, int high) {
        return low - 1 + drawn.nextInt(high - low + 3);
    }

    private double when() {
        int kind = drawn.nextInt(30);
        if (kind == 0) {
            return odd();
        }
        if (kind == 1) {
            return now - 0.125;
        }
        return now + drawn.nextInt(4) * 0.25;
    }

    private void oneCall() {
        int kind = drawn.nextInt(100);
        if (kind < 40) {
            tellObject();
        } else if (kind < 60) {
            takeStep();
        } else if (kind < 75) {
            read();
        } else {
            tellOther(kind);
        }
    }

    private void tellObject() {
        int sensor = rarely() ? index(0, 1) : drawn.nextInt(2);
        double x = number(0, spread);
        double y = number(-2, drawn.nextInt(5) == 0 ? 20 : 2);
        double v = drawn.nextInt(4) == 0 ? number(-10, 70) : number(own - 8, own + 2);
        double t = when();
        same("object", a.object(sensor, x, y, v, t), model.object(sensor, x, y, v, t));
    }

    private void takeStep() {
        if (drawn.nextInt(12) == 0) {
            own = drawn.nextInt(5) == 0 ? 0 : drawn.nextInt(20) * 2.5;
        }
        double speed = rarely() ? odd() : own;
        double t = drawn.nextInt(12) == 0 ? now + drawn.nextInt(30) : now + drawn.nextInt(3) * 0.125;
        if (rarely()) {
            t = rarely() ? odd() : now - 1;
        }
        int answered = a.step(speed, t);
        same("step", answered, model.step(speed, t));
        if (answered >= 0) {
            now = t;
            modes[answered]++;
            stages[model.stage()]++;
            readWishes();
            same("stage", a.stage(), model.stage());
        }
    }

    private void readWishes() {
        for (int what = 0; what < 4; what++) {
            same("wish", a.wish(what), model.wish(what));
        }
    }

    private void readAll() {
        readWishes();
        for (int i = 0; i < 8; i++) {
            same("time", a.time(i), model.time(i));
            for (int what = 0; what < 6; what++) {
                same("track", a.track(i, what), model.track(i, what));
            }
        }
    }

    private void read() {
        int i = index(0, 7);
        int what = index(0, 5);
        same("track", a.track(i, what), model.track(i, what));
        same("time", a.time(i), model.time(i));
        same("wish", a.wish(what), model.wish(what));
        same("stage", a.stage(), model.stage());
        same("mode", a.mode(), model.mode());
    }

    private void tellOther(int kind) {
        double t = when();
        int number = index(0, 3);
        if (kind < 79) {
            double offset = number(-1, 1);
            double slope = number(-0.25, 0.25);
            double curve = drawn.nextInt(2) == 0 ? 0 : (drawn.nextInt(25) - 12) * 0.001;
            same("lane", a.lane(offset, slope, curve), model.lane(offset, slope, curve));
        } else if (kind < 83) {
            double v = drawn.nextInt(2) == 0 ? 0 : number(-1, 1) * (drawn.nextInt(3) == 0 ? 0.125 : 1);
            same("driver", a.driver(number, v), model.driver(number, v));
        } else if (kind < 87) {
            double v = number(0, number == 0 ? 60 : 4);
            same("limit", a.limit(number, v), model.limit(number, v));
        } else if (kind < 92) {
            int sign = rarely() ? index(1, 13) : 1 + drawn.nextInt(3);
            int confidence = drawn.nextInt(5) == 0 ? index(0, 100) : 29 + drawn.nextInt(2) * 31 + drawn.nextInt(2);
            same("sign", a.sign(sign, confidence), model.sign(sign, confidence));
        } else if (kind < 96) {
            boolean on = drawn.nextInt(3) == 0;
            same("hands", a.hands(on, t), model.hands(on, t));
        } else {
            same("handOver", a.handOver(t), model.handOver(t));
        }
    }

    private void same(String call, double got, double due) {
        calls++;
        check.same("run " + run + ", " + call, got, due);
    }
}
