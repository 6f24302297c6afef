/** The terms that hold for all promises: how numbers are worked out, told and answered. */
final class TermsTest {
    public static void main(String[] args) {
        Check check = new Check("TermsTest");
        eachIsDoneAsItStands(check);
        middleIsDoneAsItStands(check);
        withoutItsSign(check);
        aZeroHasNoSign(check);
        whatIsNoNumberIsNot(check);
        nowIsTheTimeOfTheLastStep(check);
        sIsTheSpeedOfTheLastStep(check);
        tracksAre0To7(check);
        sureIs1To5(check);
        coastIs0To3(check);
        measuresWait(check);
        refusalsTheFirstThatFits(check);
        check.end();
    }

    private static void eachIsDoneAsItStands(Check check) {
        check.sentence("each +, -, *, / is done as it stands, products and quotients before sums, otherwise from the left");
        apart(check, "X + (V - S) * D", movedX(45.9, 18.6, 26.4, 2.9), 45.9 + (18.6 - 26.4) * 2.9,
            45.9 + (18.6 * 2.9 - 26.4 * 2.9), 45.9 + 18.6 * 2.9 - 26.4 * 2.9);
        apart(check, "X + 0.5 * (x - X)", joinedX(1.01, 4.64), 1.01 + 0.5 * (4.64 - 1.01),
            (1.01 + 4.64) * 0.5, 0.5 * 1.01 + 0.5 * 4.64);
        apart(check, "V + 0.25 * (v - V)", joinedV(44.2, 50.9), 1 / (70 - (44.2 + 0.25 * (50.9 - 44.2))),
            1 / (70 - (0.75 * 44.2 + 0.25 * 50.9)), 1 / (70 - (3 * 44.2 + 50.9) * 0.25));
        apart(check, "(X - (3 + GAP * S)) * 0.2 + (V - S) * 0.6", keptGap(32.8, 2.1, 14.7, 15.6),
            (32.8 - (3 + 2.1 * 14.7)) * 0.2 + (15.6 - 14.7) * 0.6,
            (32.8 - 3 - 2.1 * 14.7) * 0.2 + (15.6 - 14.7) * 0.6,
            (32.8 - (3 + 2.1 * 14.7)) / 5 + (15.6 - 14.7) * 0.6,
            32.8 * 0.2 - (3 + 2.1 * 14.7) * 0.2 + (15.6 - 14.7) * 0.6);
        apart(check, "0 - (0.1 * OFFSET + 0.5 * SLOPE)", steered(0.007, -0.029), 0 - (0.1 * 0.007 + 0.5 * -0.029),
            0 - (0.007 / 10 + 0.5 * -0.029), -0.1 * (0.007 + 5 * -0.029));
        check.holds("100 * 4.02 + 100 * 1.94 is 596 when cut, not 595", !firstTrackIsJoined(4.02, 1.94));
    }

    /** The answer that is due, and that it is another number than one that is grouped otherwise. */
    private static void apart(Check check, String words, double got, double due, double... otherwise) {
        check.same(words, got, due);
        for (double other : otherwise) {
            check.holds(words + " tells the groupings apart", due != other);
        }
    }

    /** A track of SURE 4 coasts once, so that it is the lead still. */
    private static double movedX(double x, double v, double s, double d) {
        AssistRows a = Scene.withTrack(x, 0, v, s);
        Scene.see(a, x, 0, v, s);
        a.step(s, d);
        return a.wish(3);
    }

    private static double joinedX(double first, double then) {
        AssistRows a = Scene.withTrack(first, 0, 0, 0);
        Scene.see(a, then, 0, 0, 0);
        return a.wish(3);
    }

    private static double joinedV(double first, double then) {
        AssistRows a = new AssistRows();
        Scene.see(a, 1, 0, first, 70);
        Scene.see(a, 1, 0, then, 70);
        return a.time(0);
    }

    private static double keptGap(double x, double gap, double s, double v) {
        AssistRows a = new AssistRows();
        a.limit(0, 60);
        a.limit(1, gap);
        for (int n = 0; n < 3; n++) {
            Scene.see(a, x, 0, v, s);
        }
        return a.wish(0);
    }

    private static double steered(double offset, double slope) {
        AssistRows a = new AssistRows();
        a.lane(offset, slope, 0);
        a.step(0, 0);
        return a.wish(1);
    }

    /** Whether a track dx and dy away is joined rather than one of a greater number at the cost of 595. */
    private static boolean firstTrackIsJoined(double dx, double dy) {
        AssistRows a = new AssistRows();
        a.object(0, dx, dy, 0, 0);
        a.object(0, 4.5, -1.453125, 0, 0);
        a.step(0, 0);
        a.object(0, 0, 0, 0, 0);
        a.step(0, 0);
        return a.track(0, 2) == 0;
    }

    private static void middleIsDoneAsItStands(Check check) {
        check.sentence("its middle at X is OFFSET + X * (SLOPE + X * CURVE)");
        double middle = -2.98 + 11.7 * (0.84 + 11.7 * -0.001);
        double y = middle - 1.75;
        check.holds("just within as it stands", y - middle >= -1.75);
        check.holds("beyond when grouped otherwise", y - (-2.98 + 11.7 * 0.84 + 11.7 * 11.7 * -0.001) < -1.75);
        AssistRows a = new AssistRows();
        a.lane(-2.98, 0.84, -0.001);
        for (int n = 0; n < 3; n++) {
            Scene.see(a, 11.7, y, 0, 0);
        }
        check.same("the lead", a.wish(3), 11.7);
    }

    /** What is told on the left and on the right, ahead and behind, and by either sensor, comes to the same. */
    private static void withoutItsSign(Check check) {
        check.sentence("|a| is a without its sign");
        for (int side = -1; side <= 1; side += 2) {
            AssistRows a = new AssistRows();
            Scene.see(a, 50, 0, 10, 10);
            Scene.see(a, 50 + 5 * side, 2 * side, 10, 10);
            check.same("|x - X| of 5 and |y - Y| of 2 are joined", a.track(0, 1), 2);
            check.same("|Y - middle| of 1.75 is in the LANE", Scene.withTrack(50, 1.75 * side, 10, 10).mode(), 1);
            check.same("of more is not", Scene.withTrack(50, Math.nextUp(1.75) * side, 10, 10).mode(), 0);
            AssistRows b = new AssistRows();
            for (int n = 0; n < 3; n++) {
                Scene.seeTwice(b, 50, 10, 10, 10 + 6 * side, 10, 0);
            }
            check.same("|v - v'| of 6 is above 5", b.mode(), 6);
            AssistRows c = Scene.withTrack(8, 0, 0, 16);
            check.same("DUE is 3", c.stage(), 1);
            c.driver(2, 0.5 * side);
            Scene.see(c, 8, 0, 0, 16);
            check.same("|STEER| of 0.5 is above 0.3", c.stage(), 0);
            AssistRows d = new AssistRows();
            d.lane(-5 * side, 0, 0);
            d.step(0, 0);
            check.same("|G - Z| of 0.3 is above 0.05", d.wish(1), 0.05 * side);
            d.driver(2, 0.5 * side);
            d.step(0, 0);
            check.same("|STEER| of 0.5 is above 0.05", d.wish(1), 0.0);
        }
    }

    private static void aZeroHasNoSign(Check check) {
        check.sentence("a 0 that is answered has no sign");
        AssistRows a = new AssistRows();
        a.limit(0, -0.0);
        a.step(0, 0);
        check.same("A, of (-0 - 0) * 0.5", a.wish(0), 0.0);
        a.limit(0, 60);
        a.limit(3, -0.0);
        a.step(-0.0, -0.0);
        check.same("A, brought to a PULL of -0", a.wish(0), 0.0);
        a.lane(-0.0, -0.0, -0.0);
        a.step(0, 0);
        check.same("Z", a.wish(1), 0.0);
        AssistRows b = new AssistRows();
        Scene.see(b, -0.0, -0.0, -0.0, 10);
        check.same("the time of a TRACK at -0", b.time(0), 0.0);
        Scene.see(b, -0.0, -0.0, -0.0, 10);
        Scene.see(b, -0.0, -0.0, -0.0, 10);
        check.same("LEFT", b.wish(2), 0.0);
        check.same("the LEAD's X", b.wish(3), 0.0);
    }

    private static void whatIsNoNumberIsNot(Check check) {
        check.sentence("What is told must be in its range (what is no number is not)");
        Refusal refusal = new Refusal(check);
        double none = Double.NaN;
        refusal.everywhere("object, x", a -> a.object(0, none, 0, 0, 100), -2);
        refusal.everywhere("object, y", a -> a.object(0, 0, none, 0, 100), -2);
        refusal.everywhere("object, speed", a -> a.object(1, 0, 0, none, 100), -2);
        refusal.everywhere("object, t", a -> a.object(1, 0, 0, 0, none), -2);
        refusal.everywhere("lane, offset", a -> a.lane(none, 1, 0.01), -2);
        refusal.everywhere("lane, slope", a -> a.lane(5, none, 0.01), -2);
        refusal.everywhere("lane, curve", a -> a.lane(5, 1, none), -2);
        refusal.everywhere("step, speed", a -> a.step(none, 100), -2);
        refusal.everywhere("step, t", a -> a.step(10, none), -2);
        for (int number = 0; number < 3; number++) {
            int kind = number;
            refusal.everywhere("driver " + kind, a -> a.driver(kind, none), -2);
        }
        for (int number = 0; number < 4; number++) {
            int what = number;
            refusal.everywhere("limit " + what, a -> a.limit(what, none), -2);
        }
        refusal.everywhere("hands on", a -> a.hands(true, none), -2);
        refusal.everywhere("hands off", a -> a.hands(false, none), -2);
        refusal.everywhere("handOver", a -> a.handOver(none), -2);
    }

    private static void nowIsTheTimeOfTheLastStep(Check check) {
        check.sentence("NOW is the time of the last STEP, 0 at first");
        AssistRows a = new AssistRows();
        check.same("0 fits at first", a.object(0, 1, 0, 0, 0), 1);
        check.same("less does not", a.object(0, 1, 0, 0, -Double.MIN_VALUE), -2);
        a.object(0, 1, 0, 0, 90);
        a.hands(false, 90);
        a.handOver(90);
        check.same("what else is told at a time leaves NOW", a.step(0, 3), 4);
        check.same("3 fits after a STEP at 3", a.object(1, 1, 0, 0, 3), 1);
        check.same("less does not", a.object(1, 1, 0, 0, Math.nextDown(3.0)), -2);
        check.same("a STEP below NOW is none", a.step(0, 2), -2);
        check.same("so 2 does not fit", a.hands(true, 2), -2);
        a.step(0, 4);
        check.same("3 does not fit after a STEP at 4", a.object(1, 1, 0, 0, 3), -2);
    }

    private static void sIsTheSpeedOfTheLastStep(Check check) {
        check.sentence("S its speed");
        AssistRows a = new AssistRows();
        Scene.see(a, 60, 0, 10, 20);
        check.same("60 / (20 - 10)", a.time(0), 6.0);
        a.step(70.5, 0);
        check.same("a refused STEP has none", a.time(0), 6.0);
        a.step(25, 0);
        check.same("60 / (25 - 10)", a.time(0), 4.0);
    }

    private static void tracksAre0To7(Check check) {
        check.sentence("TRACKS are 0 .. 7, at first none is THERE");
        AssistRows a = new AssistRows();
        for (int i = 0; i <= 7; i++) {
            check.same("none is THERE", a.track(i, 0), 0);
        }
        check.same("8", a.track(8, 0), -1);
        check.same("-1", a.track(-1, 0), -1);
        AssistRows b = Scene.tracksAt(10, 30, 50, 70, 90, 110, 130, 150);
        for (int i = 0; i <= 7; i++) {
            check.same("all are THERE", b.track(i, 0), 1);
        }
        check.same("8", b.track(8, 0), -1);
    }

    private static void sureIs1To5(Check check) {
        check.sentence("SURE (1 .. 5)");
        AssistRows a = new AssistRows();
        for (int n = 1; n <= 8; n++) {
            Scene.see(a, 50, 0, 0, 0);
            check.same("SURE after " + n, a.track(0, 1), n < 5 ? n : 5);
        }
        AssistRows b = new AssistRows();
        Scene.see(b, 50, 0, 0, 0);
        b.step(0, 0);
        check.same("1 stays when it coasts", b.track(0, 1), 1);
    }

    private static void coastIs0To3(Check check) {
        check.sentence("COAST (0 .. 3)");
        AssistRows a = Scene.tracksAt(50);
        for (int n = 0; n <= 3; n++) {
            check.same("COAST", a.track(0, 2), n);
            check.same("THERE", a.track(0, 0), 1);
            a.step(0, 0);
        }
        check.same("no COAST of 4", a.track(0, 2), 0);
        check.same("it is not THERE", a.track(0, 0), 0);
    }

    private static void measuresWait(Check check) {
        check.sentence("MEASURES of SENSORS 0 and 1 wait for the next STEP, 4 of each at most");
        AssistRows a = new AssistRows();
        for (int n = 1; n <= 4; n++) {
            check.same("SENSOR 0, number " + n, a.object(0, 20 * n, 0, 0, 0), n);
        }
        check.same("a fifth of SENSOR 0", a.object(0, 100, 0, 0, 0), -4);
        for (int n = 1; n <= 4; n++) {
            check.same("SENSOR 1, number " + n, a.object(1, 20 * n, 10, 0, 0), n);
        }
        check.same("a fifth of SENSOR 1", a.object(1, 100, 0, 0, 0), -4);
        check.same("they are no TRACKS before it", Scene.tracksOf(a), 0);
        check.same("a refused STEP is not the next one", a.step(71, 0), -2);
        check.same("they wait still", a.object(0, 100, 0, 0, 0), -4);
        a.step(0, 0);
        check.same("all eight became TRACKS", Scene.tracksOf(a), 8);
        check.same("none of SENSOR 0 waits for the STEP after", a.object(0, 1, 0, 0, 0), 1);
        check.same("none of SENSOR 1", a.object(1, 1, 0, 0, 0), 1);
    }

    private static void refusalsTheFirstThatFits(Check check) {
        check.sentence("REFUSALS change nothing and answer, the first that fits: "
            + "-1 an unknown number, -2 outside a range, -3 not in this state, -4 no room.");
        Refusal refusal = new Refusal(check);
        refusal.in(State.FULL, "object, -1 before -2 for x", a -> a.object(2, 201, 0, 0, 2), -1);
        refusal.in(State.FULL, "object, -1 before -2 for y", a -> a.object(-1, 200, 21, 0, 2), -1);
        refusal.in(State.FULL, "object, -1 before -2 for speed", a -> a.object(2, 200, 0, 71, 2), -1);
        refusal.in(State.FULL, "object, -1 before -2 for t", a -> a.object(2, 200, 0, 0, 1), -1);
        refusal.in(State.FULL, "object, -1 before -4", a -> a.object(2, 200, 0, 0, 2), -1);
        refusal.in(State.FULL, "object, -2 for x before -4", a -> a.object(0, 201, 0, 0, 2), -2);
        refusal.in(State.FULL, "object, -2 for y before -4", a -> a.object(1, 200, 21, 0, 2), -2);
        refusal.in(State.FULL, "object, -2 for speed before -4", a -> a.object(0, 200, 0, 71, 2), -2);
        refusal.in(State.FULL, "object, -2 for t before -4", a -> a.object(1, 200, 0, 0, 1), -2);
        refusal.in(State.FULL, "object, -4", a -> a.object(0, 200, 0, 0, 2), -4);
        refusal.everywhere("driver, -1 before -2", a -> a.driver(3, 2), -1);
        refusal.everywhere("limit, -1 before -2", a -> a.limit(4, 61), -1);
        refusal.everywhere("track, -1 before -2", a -> a.track(8, 6), -1);
        refusal.everywhere("sign, -1 before -2", a -> a.sign(14, 101), -1);
        for (State state : new State[] {State.NEW, State.DRIVING, State.ASKED, State.STOPPING}) {
            refusal.in(state, "handOver, -2 before -3", a -> a.handOver(100001), -2);
            refusal.in(state, "handOver, -3", a -> a.handOver(100000), -3);
        }
    }
}
