import java.util.ArrayList;
import java.util.List;
import java.util.TreeMap;

/**
 * The document once more, written without regard to cost and apart from the
 * class: ways to join are all listed and compared, nothing is remembered that
 * can be worked out anew.
 */
final class Model {
    private static final class Thing {
        double x;
        double y;
        double v;
        int sure = 1;
        int coast;
        List<double[]> tellings = new ArrayList<>();
    }

    private final TreeMap<Integer, Thing> things = new TreeMap<>();
    private final List<List<double[]>> waiting = List.of(new ArrayList<>(), new ArrayList<>());
    private final double[] lane = new double[3];
    private final double[] driver = new double[3];
    private final double[] limits = {0, 1.5, 9, 2};
    private final int[] counts = new int[14];
    private final double[] wishes = {0, 0, -1, -1};
    private double now;
    private double s;
    private int stage;
    private int mode;
    private int sign;
    private int differing;
    private Double offSince;
    private Double askedAt;
    private boolean stopping;

    private static boolean out(double v, double low, double high) {
        return !(low <= v && v <= high);
    }

    private static double clamp(double v, double low, double high) {
        return v < low ? low : v > high ? high : v;
    }

    private static double answer(double v) {
        return v + 0.0;
    }

    int object(int sensor, double x, double y, double v, double t) {
        if (sensor < 0 || sensor > 1) {
            return -1;
        }
        if (out(x, 0, 200) || out(y, -20, 20) || out(v, -10, 70) || out(t, now, 100000)) {
            return -2;
        }
        if (waiting.get(sensor).size() == 4) {
            return -4;
        }
        waiting.get(sensor).add(new double[] {x, y, v});
        return waiting.get(sensor).size();
    }

    int lane(double offset, double slope, double curve) {
        if (out(offset, -5, 5) || out(slope, -1, 1) || out(curve, -0.01, 0.01)) {
            return -2;
        }
        lane[0] = offset;
        lane[1] = slope;
        lane[2] = curve;
        return 1;
    }

    int driver(int kind, double v) {
        if (kind < 0 || kind > 2) {
            return -1;
        }
        if (out(v, kind == 2 ? -1 : 0, 1)) {
            return -2;
        }
        driver[kind] = v;
        return 1;
    }

    int limit(int what, double v) {
        if (what < 0 || what > 3) {
            return -1;
        }
        double[] low = {0, 0.5, 1, 0};
        double[] high = {60, 3, 9, 3};
        if (out(v, low[what], high[what])) {
            return -2;
        }
        limits[what] = v;
        return 1;
    }

    int hands(boolean on, double t) {
        if (out(t, now, 100000)) {
            return -2;
        }
        if (on == (offSince == null)) {
            return 0;
        }
        offSince = on ? null : Double.valueOf(t);
        return 1;
    }

    int handOver(double t) {
        if (out(t, now, 100000)) {
            return -2;
        }
        if (askedAt != null || offSince == null || stopping) {
            return -3;
        }
        askedAt = t;
        return 1;
    }

    int sign(int kind, int confidence) {
        if (kind < 1 || kind > 13) {
            return -1;
        }
        if (confidence < 0 || confidence > 100) {
            return -2;
        }
        for (int k = 1; k < 14; k++) {
            if (k != kind) {
                counts[k] = Math.max(0, counts[k] - 1);
            }
        }
        counts[kind] += confidence >= 60 ? 2 : confidence >= 30 ? 1 : 0;
        if (counts[kind] >= 4) {
            sign = kind;
            java.util.Arrays.fill(counts, 0);
        }
        return sign;
    }

    int track(int i, int what) {
        if (i < 0 || i > 7) {
            return -1;
        }
        if (what < 0 || what > 5) {
            return -2;
        }
        Thing thing = things.get(i);
        if (thing == null) {
            return 0;
        }
        int[] all = {1, thing.sure, thing.coast, (int) (100 * thing.x), (int) (100 * thing.y), (int) (100 * thing.v)};
        return all[what];
    }

    double time(int i) {
        Thing thing = things.get(i);
        return thing == null ? -1 : left(thing);
    }

    private double left(Thing thing) {
        return s > thing.v ? answer(thing.x / (s - thing.v)) : -1;
    }

    double wish(int what) {
        return what < 0 || what > 3 ? 0 : answer(wishes[what]);
    }

    int stage() {
        return stage;
    }

    int mode() {
        return mode;
    }

    int step(double speed, double t) {
        if (out(speed, 0, 70) || out(t, now, 100000)) {
            return -2;
        }
        double d = t - now;
        now = t;
        s = speed;
        for (Thing thing : things.values()) {
            thing.x += (thing.v - s) * d;
            thing.tellings.clear();
        }
        for (List<double[]> told : waiting) {
            join(told);
            told.clear();
        }
        boolean differ = things.values().stream().anyMatch(
            thing -> thing.tellings.size() == 2
                && Math.abs(thing.tellings.get(0)[2] - thing.tellings.get(1)[2]) > 5);
        differing = differ ? differing + 1 : 0;
        for (Thing thing : things.values()) {
            boolean told = !thing.tellings.isEmpty();
            thing.coast = told ? 0 : thing.coast + 1;
            thing.sure = told ? thing.sure : Math.max(1, thing.sure - 1);
        }
        things.values().removeIf(thing -> thing.coast == 4 || thing.x < 0 || thing.x > 250);
        Thing lead = lead();
        wishes[2] = lead == null ? -1 : left(lead);
        wishes[3] = lead == null ? -1 : lead.x;
        stage = Math.min(due(wishes[2]), stage + 1);
        stop();
        mode = newMode(lead != null);
        wishes[0] = pull(lead);
        steer();
        return mode;
    }

    private void join(List<double[]> told) {
        int[] way = bestWay(told);
        List<double[]> rest = new ArrayList<>();
        for (int m = 0; m < told.size(); m++) {
            double[] measure = told.get(m);
            if (way[m] == 8) {
                rest.add(measure);
                continue;
            }
            Thing thing = things.get(way[m]);
            thing.x += 0.5 * (measure[0] - thing.x);
            thing.y += 0.5 * (measure[1] - thing.y);
            thing.v += 0.25 * (measure[2] - thing.v);
            thing.sure = Math.min(5, thing.sure + 1);
            thing.tellings.add(measure);
        }
        for (double[] measure : rest) {
            int number = 0;
            while (things.containsKey(number)) {
                number++;
            }
            if (number < 8) {
                Thing thing = new Thing();
                thing.x = measure[0];
                thing.y = measure[1];
                thing.v = measure[2];
                thing.tellings.add(measure);
                things.put(number, thing);
            }
        }
    }

    /** Every row of numbers 0 .. 8 (8 is none) in the order of the rows; the first best is taken. */
    private int[] bestWay(List<double[]> told) {
        int n = told.size();
        int rows = 1;
        for (int m = 0; m < n; m++) {
            rows *= 9;
        }
        int[] best = null;
        int bestJoined = -1;
        int bestSum = 0;
        for (int row = 0; row < rows; row++) {
            int[] way = new int[n];
            int rest = row;
            for (int m = n - 1; m >= 0; m--) {
                way[m] = rest % 9;
                rest /= 9;
            }
            int sum = 0;
            int joined = 0;
            boolean allowed = true;
            for (int m = 0; m < n && allowed; m++) {
                if (way[m] < 8) {
                    int cost = cost(told.get(m), way[m]);
                    allowed = cost >= 0;
                    for (int other = 0; other < m; other++) {
                        allowed &= way[other] != way[m];
                    }
                    sum += cost;
                    joined++;
                }
            }
            if (allowed && (joined > bestJoined || joined == bestJoined && sum < bestSum)) {
                best = way;
                bestJoined = joined;
                bestSum = sum;
            }
        }
        return best;
    }

    private int cost(double[] measure, int number) {
        Thing thing = things.get(number);
        if (thing == null) {
            return -1;
        }
        double dx = Math.abs(measure[0] - thing.x);
        double dy = Math.abs(measure[1] - thing.y);
        return dx <= 5 && dy <= 2 ? (int) (100 * dx + 100 * dy) : -1;
    }

    private Thing lead() {
        Thing best = null;
        for (Thing thing : things.values()) {
            double middle = lane[0] + thing.x * (lane[1] + thing.x * lane[2]);
            if (thing.sure >= 3 && Math.abs(thing.y - middle) <= 1.75 && (best == null || thing.x < best.x)) {
                best = thing;
            }
        }
        return best;
    }

    private int due(double left) {
        if (left < 0 || Math.abs(driver[2]) > 0.3) {
            return 0;
        }
        return left < 0.8 ? 3 : left < 1.6 ? 2 : left < 2.6 ? 1 : 0;
    }

    private void stop() {
        boolean on = offSince == null;
        boolean begins = !on && (now - offSince >= 40 || askedAt != null && now - askedAt >= 10);
        if (begins) {
            stopping = true;
        }
        if (on && s == 0) {
            stopping = false;
        }
        if (on || begins) {
            askedAt = null;
        }
    }

    private int newMode(boolean led) {
        boolean[] fits = {
            true, led, driver[0] > 0 || driver[1] > 0, stage == 2 || stage == 3,
            offSince != null && now - offSince >= 15 || askedAt != null, stopping, differing >= 3
        };
        int first = 6;
        while (!fits[first]) {
            first--;
        }
        return first;
    }

    private double pull(Thing lead) {
        double a = (limits[0] - s) * 0.5;
        if (lead != null) {
            a = Math.min(a, (lead.x - (3 + limits[1] * s)) * 0.2 + (lead.v - s) * 0.6);
        }
        if (mode == 6) {
            a = Math.min(a, 0);
        }
        a = clamp(a, -3.5, 2);
        if (driver[0] > 0) {
            a = Math.max(a, 3 * driver[0]);
        }
        if (stopping) {
            a = s == 0 ? 0 : -2;
        }
        if (driver[1] > 0) {
            a = -9 * driver[1];
        }
        if (stage >= 2) {
            a = Math.min(a, stage == 2 ? -4 : -9);
        }
        return clamp(a, -limits[2], limits[3]);
    }

    private void steer() {
        double g = clamp(0 - (0.1 * lane[0] + 0.5 * lane[1]), -0.3, 0.3);
        if (Math.abs(driver[2]) > 0.05) {
            g = 0;
        }
        double z = wishes[1];
        if (Math.abs(g - z) <= 0.05) {
            wishes[1] = g;
        } else {
            wishes[1] = g > z ? z + 0.05 : z - 0.05;
        }
    }
}
