/**
 * Assistance at the wheel on objects that sensors tell. What it does is written
 * in ../shared/DOC.md; the words that stand in capitals there are the names here.
 */
public final class AssistRows {
    private static final int DONE = 1;
    private static final int UNKNOWN = -1;
    private static final int OUTSIDE = -2;
    private static final int NOT_IN_THIS_STATE = -3;
    private static final int NO_ROOM = -4;

    private static final int LAST_TIME = 100000;
    private static final int TRACKS = 8;
    private static final int MEASURES = 4;
    private static final int SIGN_KINDS = 13;
    private static final int NONE = -1;

    private static final int MODE_FREE = 0;
    private static final int MODE_LEAD = 1;
    private static final int MODE_DRIVER = 2;
    private static final int MODE_BRAKING = 3;
    private static final int MODE_HANDS_WANTED = 4;
    private static final int MODE_STOPPING = 5;
    private static final int MODE_SENSORS_DIFFER = 6;

    private final Measures sensor0;
    private final Measures sensor1;
    private final Tracks tracks;
    private final Lane lane;
    private final Driver driver;
    private final Limits limits;
    private final Hands hands;
    private final Signs signs;
    private double now;
    private double speed;
    private int differing;
    private int stage;
    private int mode;
    private double pull;
    private double turn;
    private double left;
    private double leadX;

    public AssistRows() {
        sensor0 = new Measures();
        sensor1 = new Measures();
        tracks = new Tracks();
        lane = new Lane();
        driver = new Driver();
        limits = new Limits();
        hands = new Hands();
        signs = new Signs();
        left = -1;
        leadX = -1;
    }

    public int object(int sensor, double x, double y, double speed, double t) {
        if (sensor != 0 && sensor != 1) {
            return UNKNOWN;
        }
        if (!within(x, 0, 200) || !within(y, -20, 20) || !within(speed, -10, 70) || !isTime(t)) {
            return OUTSIDE;
        }
        return sensor == 0 ? sensor0.add(x, y, speed) : sensor1.add(x, y, speed);
    }

    public int lane(double offset, double slope, double curve) {
        if (!within(offset, -5, 5) || !within(slope, -1, 1) || !within(curve, -0.01, 0.01)) {
            return OUTSIDE;
        }
        lane.offset = offset;
        lane.slope = slope;
        lane.curve = curve;
        return DONE;
    }

    public int step(double speed, double t) {
        if (!within(speed, 0, 70) || !isTime(t)) {
            return OUTSIDE;
        }
        tracks.move(speed, t - now);
        now = t;
        this.speed = speed;
        joinMeasures();
        tracks.age();
        int lead = tracks.leadOn(lane);
        boolean led = tracks.isThere(lead);
        left = tracks.secondsTo(lead, speed);
        leadX = led ? tracks.x[lead] : -1;
        stage = nextStage(stage, dueStage());
        hands.pass(now, speed);
        mode = chosenMode(led);
        pull = limitedPull(lead);
        turn = turned(turn, driver.steers(0.05) ? 0 : lane.straightening());
        return mode;
    }

    public double wish(int what) {
        switch (what) {
            case 0:
                return unsignedZero(pull);
            case 1:
                return unsignedZero(turn);
            case 2:
                return unsignedZero(left);
            case 3:
                return unsignedZero(leadX);
            default:
                return 0;
        }
    }

    public int stage() {
        return stage;
    }

    public double time(int object) {
        return unsignedZero(tracks.secondsTo(object, speed));
    }

    public long whole(long metres, long speed) throws ArithmeticException {
        if (speed == 0) {
            throw new ArithmeticException("a speed of 0");
        }
        return metres / speed;
    }

    public int driver(int kind, double v) {
        if (kind < 0 || kind > 2) {
            return UNKNOWN;
        }
        return driver.tell(kind, v) ? DONE : OUTSIDE;
    }

    public int limit(int what, double v) {
        if (what < 0 || what > 3) {
            return UNKNOWN;
        }
        return limits.tell(what, v) ? DONE : OUTSIDE;
    }

    public int track(int i, int what) {
        if (i < 0 || i >= TRACKS) {
            return UNKNOWN;
        }
        if (what < 0 || what > 5) {
            return OUTSIDE;
        }
        return tracks.read(i, what);
    }

    public int sign(int kind, int confidence) {
        if (kind < 1 || kind > SIGN_KINDS) {
            return UNKNOWN;
        }
        if (confidence < 0 || confidence > 100) {
            return OUTSIDE;
        }
        return signs.see(kind, confidence);
    }

    public int hands(boolean on, double t) {
        if (!isTime(t)) {
            return OUTSIDE;
        }
        return hands.tell(on, t) ? DONE : 0;
    }

    public int handOver(double t) {
        if (!isTime(t)) {
            return OUTSIDE;
        }
        return hands.ask(t) ? DONE : NOT_IN_THIS_STATE;
    }

    public int mode() {
        return mode;
    }

    private boolean isTime(double t) {
        return within(t, now, LAST_TIME);
    }

    private void joinMeasures() {
        tracks.forgetMeetings();
        tracks.meet(sensor0);
        tracks.meet(sensor1);
        sensor0.count = 0;
        sensor1.count = 0;
        differing = tracks.differ ? differing + 1 : 0;
    }

    private int dueStage() {
        if (left < 0 || driver.steers(0.3)) {
            return 0;
        }
        if (left < 0.8) {
            return 3;
        }
        if (left < 1.6) {
            return 2;
        }
        return left < 2.6 ? 1 : 0;
    }

    private int chosenMode(boolean led) {
        if (differing >= 3) {
            return MODE_SENSORS_DIFFER;
        }
        if (hands.stopping) {
            return MODE_STOPPING;
        }
        if (hands.off(now) >= 15 || hands.asked) {
            return MODE_HANDS_WANTED;
        }
        if (stage >= 2) {
            return MODE_BRAKING;
        }
        if (driver.pedal > 0 || driver.brake > 0) {
            return MODE_DRIVER;
        }
        return led ? MODE_LEAD : MODE_FREE;
    }

    /** What the speed wished and the lead ask for, before driver, stop and stage are heard. */
    private double keptPull(int lead) {
        double a = (limits.speed - speed) * 0.5;
        if (tracks.isThere(lead)) {
            double room = tracks.x[lead] - (3 + limits.gap * speed);
            a = lesser(a, room * 0.2 + (tracks.speed[lead] - speed) * 0.6);
        }
        if (mode == MODE_SENSORS_DIFFER) {
            a = lesser(a, 0);
        }
        return between(a, -3.5, 2);
    }

    private double limitedPull(int lead) {
        double a = keptPull(lead);
        if (driver.pedal > 0) {
            a = greater(a, 3 * driver.pedal);
        }
        if (hands.stopping) {
            a = speed == 0 ? 0 : -2;
        }
        if (driver.brake > 0) {
            a = -9 * driver.brake;
        }
        if (stage == 2) {
            a = lesser(a, -4);
        }
        if (stage == 3) {
            a = lesser(a, -9);
        }
        return between(a, -limits.braking, limits.pull);
    }

    private static int nextStage(int stage, int due) {
        return due > stage ? stage + 1 : due;
    }

    private static double turned(double from, double goal) {
        if (magnitude(goal - from) <= 0.05) {
            return goal;
        }
        return goal > from ? from + 0.05 : from - 0.05;
    }

    /** False for what is no number, since each comparison with it is. */
    private static boolean within(double v, double low, double high) {
        return v >= low && v <= high;
    }

    private static double between(double v, double low, double high) {
        return greater(low, lesser(v, high));
    }

    private static double lesser(double a, double b) {
        return a <= b ? a : b;
    }

    private static double greater(double a, double b) {
        return a >= b ? a : b;
    }

    private static double magnitude(double v) {
        return v < 0 ? -v : v;
    }

    private static double unsignedZero(double v) {
        return v == 0 ? 0.0 : v;
    }

    /** What one sensor has told since the last step. */
    private static final class Measures {
        final double[] x = new double[MEASURES];
        final double[] y = new double[MEASURES];
        final double[] speed = new double[MEASURES];
        int count;

        int add(double ahead, double toTheLeft, double itsSpeed) {
            if (count < 0 || count >= MEASURES) {
                return NO_ROOM;
            }
            x[count] = ahead;
            y[count] = toTheLeft;
            speed[count] = itsSpeed;
            count++;
            return count;
        }
    }

    /** The tracks, a row for each thing that is known of them. */
    private static final class Tracks {
        final boolean[] there = new boolean[TRACKS];
        final double[] x = new double[TRACKS];
        final double[] y = new double[TRACKS];
        final double[] speed = new double[TRACKS];
        final int[] sure = new int[TRACKS];
        final int[] coast = new int[TRACKS];
        final boolean[] met = new boolean[TRACKS];
        final double[] metSpeed = new double[TRACKS];
        final Pairing pairing = new Pairing();
        boolean differ;

        boolean isThere(int i) {
            return i >= 0 && i < TRACKS && there[i];
        }

        void move(double ownSpeed, double duration) {
            for (int i = 0; i < TRACKS; i++) {
                if (there[i]) {
                    x[i] = x[i] + (speed[i] - ownSpeed) * duration;
                }
            }
        }

        void forgetMeetings() {
            differ = false;
            for (int i = 0; i < TRACKS; i++) {
                met[i] = false;
            }
        }

        void meet(Measures told) {
            pairing.solve(told, this);
            for (int m = 0; m < MEASURES && m < told.count; m++) {
                int i = pairing.best[m];
                if (isThere(i)) {
                    join(i, told.x[m], told.y[m], told.speed[m]);
                } else {
                    make(told.x[m], told.y[m], told.speed[m]);
                }
            }
        }

        /** What it costs to join a measure to a track, NONE if it may not be joined. */
        int cost(int i, double toldX, double toldY) {
            if (!isThere(i)) {
                return NONE;
            }
            double ahead = magnitude(toldX - x[i]);
            double aside = magnitude(toldY - y[i]);
            if (ahead > 5 || aside > 2) {
                return NONE;
            }
            return (int) (100 * ahead + 100 * aside);
        }

        private void join(int i, double toldX, double toldY, double toldSpeed) {
            // A sensor meets a track once at most, so one that is met already was met by the other.
            if (met[i] && magnitude(metSpeed[i] - toldSpeed) > 5) {
                differ = true;
            }
            x[i] = x[i] + 0.5 * (toldX - x[i]);
            y[i] = y[i] + 0.5 * (toldY - y[i]);
            speed[i] = speed[i] + 0.25 * (toldSpeed - speed[i]);
            sure[i] = sure[i] < 5 ? sure[i] + 1 : 5;
            meeting(i, toldSpeed);
        }

        private void make(double toldX, double toldY, double toldSpeed) {
            for (int i = 0; i < TRACKS; i++) {
                if (!there[i]) {
                    there[i] = true;
                    x[i] = toldX;
                    y[i] = toldY;
                    speed[i] = toldSpeed;
                    sure[i] = 1;
                    meeting(i, toldSpeed);
                    return;
                }
            }
        }

        private void meeting(int i, double toldSpeed) {
            coast[i] = 0;
            met[i] = true;
            metSpeed[i] = toldSpeed;
        }

        void age() {
            for (int i = 0; i < TRACKS; i++) {
                if (there[i] && !met[i]) {
                    coast[i] = coast[i] + 1;
                    sure[i] = sure[i] > 1 ? sure[i] - 1 : 1;
                }
                if (coast[i] >= 4 || x[i] < 0 || x[i] > 250) {
                    there[i] = false;
                }
            }
        }

        int leadOn(Lane lane) {
            int lead = NONE;
            double least = 0;
            for (int i = 0; i < TRACKS; i++) {
                boolean fits = there[i] && sure[i] >= 3 && magnitude(y[i] - lane.middle(x[i])) <= 1.75;
                if (fits && (lead == NONE || x[i] < least)) {
                    lead = i;
                    least = x[i];
                }
            }
            return lead;
        }

        double secondsTo(int i, double ownSpeed) {
            if (!isThere(i)) {
                return -1;
            }
            double closing = ownSpeed - speed[i];
            return closing > 0 ? x[i] / closing : -1;
        }

        int read(int i, int what) {
            if (!isThere(i)) {
                return 0;
            }
            switch (what) {
                case 0:
                    return 1;
                case 1:
                    return sure[i];
                case 2:
                    return coast[i];
                case 3:
                    return (int) (x[i] * 100);
                case 4:
                    return (int) (y[i] * 100);
                default:
                    return (int) (speed[i] * 100);
            }
        }
    }

    /** The search for the best way to join the measures of one sensor to the tracks. */
    private static final class Pairing {
        /** The track of each measure in the best way so far, NONE for none. */
        final int[] best = new int[MEASURES];
        private final int[] tried = new int[MEASURES];
        private final int[] costs = new int[MEASURES * TRACKS];
        private final boolean[] taken = new boolean[TRACKS];
        private int count;
        private int bestJoined;
        private int bestSum;

        void solve(Measures told, Tracks tracks) {
            count = told.count;
            bestJoined = -1;
            bestSum = 0;
            for (int m = 0; m < MEASURES && m < count; m++) {
                for (int i = 0; i < TRACKS; i++) {
                    costs[m * TRACKS + i] = tracks.cost(i, told.x[m], told.y[m]);
                }
            }
            search(this, 0, 0, 0);
        }

        /**
         * Goes through the ways in the order that decides between equal ones, so
         * that the first of them is kept when only a better one replaces it.
         */
        private static void search(Pairing p, int measure, int joined, int sum) {
            int mostJoined = joined + p.count - measure;
            if (mostJoined < p.bestJoined || mostJoined == p.bestJoined && sum >= p.bestSum) {
                return;
            }
            if (measure < 0 || measure >= MEASURES || measure >= p.count) {
                p.keep(joined, sum);
                return;
            }
            for (int i = 0; i < TRACKS; i++) {
                int cost = p.costs[measure * TRACKS + i];
                if (cost != NONE && !p.taken[i]) {
                    p.taken[i] = true;
                    p.tried[measure] = i;
                    search(p, measure + 1, joined + 1, sum + cost);
                    p.taken[i] = false;
                }
            }
            p.tried[measure] = NONE;
            search(p, measure + 1, joined, sum);
        }

        private void keep(int joined, int sum) {
            bestJoined = joined;
            bestSum = sum;
            for (int m = 0; m < MEASURES; m++) {
                best[m] = tried[m];
            }
        }
    }

    /** The lane as a curve. */
    private static final class Lane {
        double offset;
        double slope;
        double curve;

        double middle(double x) {
            return offset + x * (slope + x * curve);
        }

        /** The steering that leads back to the middle. */
        double straightening() {
            return between(0 - (0.1 * offset + 0.5 * slope), -0.3, 0.3);
        }
    }

    /** What the driver's feet and hands do. */
    private static final class Driver {
        double pedal;
        double brake;
        double steer;

        boolean tell(int kind, double v) {
            if (!within(v, kind == 2 ? -1 : 0, 1)) {
                return false;
            }
            switch (kind) {
                case 0:
                    pedal = v;
                    break;
                case 1:
                    brake = v;
                    break;
                default:
                    steer = v;
                    break;
            }
            return true;
        }

        boolean steers(double least) {
            return magnitude(steer) > least;
        }
    }

    /** What the driver allows. */
    private static final class Limits {
        double speed = 0;
        double gap = 1.5;
        double braking = 9;
        double pull = 2;

        boolean tell(int what, double v) {
            if (!fits(what, v)) {
                return false;
            }
            switch (what) {
                case 0:
                    speed = v;
                    break;
                case 1:
                    gap = v;
                    break;
                case 2:
                    braking = v;
                    break;
                default:
                    pull = v;
                    break;
            }
            return true;
        }

        private static boolean fits(int what, double v) {
            switch (what) {
                case 0:
                    return within(v, 0, 60);
                case 1:
                    return within(v, 0.5, 3);
                case 2:
                    return within(v, 1, 9);
                default:
                    return within(v, 0, 3);
            }
        }
    }

    /** Hands at the wheel, the hand-over that was asked, and the stop that follows. */
    private static final class Hands {
        boolean on = true;
        boolean asked;
        boolean stopping;
        private double changedAt;
        private double askedAt;

        boolean tell(boolean nowOn, double t) {
            if (nowOn == on) {
                return false;
            }
            on = nowOn;
            changedAt = t;
            return true;
        }

        boolean ask(double t) {
            if (asked || on || stopping) {
                return false;
            }
            asked = true;
            askedAt = t;
            return true;
        }

        double off(double now) {
            return on ? 0 : now - changedAt;
        }

        void pass(double now, double ownSpeed) {
            if (on) {
                asked = false;
                stopping = stopping && ownSpeed != 0;
            } else if (off(now) >= 40 || asked && now - askedAt >= 10) {
                asked = false;
                stopping = true;
            }
        }
    }

    /** The counts of the signs that were seen, and the one that was taken last. */
    private static final class Signs {
        private final int[] counts = new int[SIGN_KINDS + 1];
        private int taken;

        int see(int kind, int confidence) {
            boolean enough = false;
            for (int k = 1; k <= SIGN_KINDS; k++) {
                if (k == kind) {
                    counts[k] = counts[k] + weight(confidence);
                    enough = counts[k] >= 4;
                } else if (counts[k] > 0) {
                    counts[k] = counts[k] - 1;
                }
            }
            if (enough) {
                take(kind);
            }
            return taken;
        }

        private void take(int kind) {
            taken = kind;
            for (int k = 1; k <= SIGN_KINDS; k++) {
                counts[k] = 0;
            }
        }

        private static int weight(int confidence) {
            if (confidence >= 60) {
                return 2;
            }
            return confidence >= 30 ? 1 : 0;
        }
    }
}
