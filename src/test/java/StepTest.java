/** Promise 4: step, and its points 1 to 3 as track() tells them. */
final class StepTest {
    public static void main(String[] args) {
        Check check = new Check("StepTest");
        ranges(check);
        refusalsChangeNothing(check);
        tracksMove(check);
        joinedTracks(check);
        whatMayBeJoined(check);
        mostJoinedBeforeLeastSum(check);
        leastSum(check);
        costIsOfBothSides(check);
        firstOfEquals(check);
        costsAreCut(check);
        madeTracks(check);
        noNumberIsLeft(check);
        sensorsDiffer(check);
        coasting(check);
        leaving(check);
        check.end();
    }

    private static void ranges(Check check) {
        AssistRows a = new AssistRows();
        check.same("least", a.step(0, 0), 0);
        check.same("0 with a sign", a.step(-0.0, -0.0), 0);
        check.same("speed below", a.step(-Double.MIN_VALUE, 0), -2);
        check.same("speed above", a.step(Math.nextUp(70.0), 0), -2);
        check.same("t below", a.step(0, -Double.MIN_VALUE), -2);
        check.same("t above", a.step(0, Math.nextUp(100000.0)), -2);
        for (double v : Scene.NO_NUMBERS) {
            check.same("speed " + v, a.step(v, 0), -2);
            check.same("t " + v, a.step(0, v), -2);
        }
        check.same("most", a.step(70, 100000), 0);
        check.same("t below NOW", a.step(70, Math.nextDown(100000.0)), -2);
        check.same("t NOW again", a.step(70, 100000), 0);
    }

    private static void refusalsChangeNothing(Check check) {
        AssistRows a = Scene.withTrack(50, 0, 10, 20);
        a.object(0, 40, 0, 0, 0);
        String before = Scene.picture(a);
        a.step(71, 1);
        a.step(20, 100001);
        a.step(20, -1);
        a.step(Double.NaN, 1);
        check.holds("refused steps leave all as it was", before.equals(Scene.picture(a)));
        check.same("NOW is as it was", a.step(20, 0), 0);
    }

    private static void tracksMove(Check check) {
        AssistRows a = new AssistRows();
        a.object(0, 100, 3, 30, 0);
        a.object(0, 50, -3, -10, 0);
        a.step(5, 2);
        check.same("made where it was told", a.track(0, 3), 10000);
        a.step(20, 2.5);
        check.same("ahead by (30 - 20) * 0.5", a.track(0, 3), 10500);
        check.same("nearer by (-10 - 20) * 0.5", a.track(1, 3), 3500);
        check.same("Y stays", a.track(0, 4), 300);
        check.same("V stays", a.track(1, 5), -1000);
    }

    private static void joinedTracks(Check check) {
        AssistRows a = new AssistRows();
        a.object(0, 50, 1, 20, 0);
        a.step(20, 0);
        check.same("SURE of a new one", a.track(0, 1), 1);
        a.object(0, 53, 0, 24, 0);
        a.step(20, 0);
        check.same("X half way", a.track(0, 3), 5150);
        check.same("Y half way", a.track(0, 4), 50);
        check.same("V a quarter of the way", a.track(0, 5), 2100);
        for (int sure = 2; sure <= 7; sure++) {
            check.same("SURE", a.track(0, 1), sure < 5 ? sure : 5);
            a.object(0, 51.5, 0.5, 21, 0);
            a.step(21, 0);
        }
        a.object(0, 51.5, 0.5, 21, 0);
        a.object(1, 53.5, 0.5, 21, 0);
        a.step(21, 0);
        check.same("sensor 1 after sensor 0", a.track(0, 3), 5250);
    }

    private static void whatMayBeJoined(Check check) {
        check.same("5 ahead", tracksAfter(55, 1), 1);
        check.same("more than 5 ahead", tracksAfter(Math.nextUp(55.0), 1), 2);
        check.same("5 nearer", tracksAfter(45, 1), 1);
        check.same("more than 5 nearer", tracksAfter(Math.nextDown(45.0), 1), 2);
        check.same("2 to the left", tracksAfter(50, 3), 1);
        check.same("more than 2 to the left", tracksAfter(50, Math.nextUp(3.0)), 2);
        check.same("2 to the right", tracksAfter(50, -1), 1);
        check.same("more than 2 to the right", tracksAfter(50, -1.0000001), 2);
        check.same("both edges", tracksAfter(45, 3), 1);
    }

    private static int tracksAfter(double x, double y) {
        AssistRows a = new AssistRows();
        a.object(0, 50, 1, 0, 0);
        a.step(0, 0);
        a.object(0, x, y, 0, 0);
        a.step(0, 0);
        return tracksOf(a);
    }

    private static int tracksOf(AssistRows a) {
        int there = 0;
        for (int i = 0; i < 8; i++) {
            there += a.track(i, 0);
        }
        return there;
    }

    private static AssistRows tracksAt(double... xs) {
        AssistRows a = new AssistRows();
        for (double x : xs) {
            a.object(0, x, 0, 0, 0);
        }
        a.step(0, 0);
        return a;
    }

    private static void mostJoinedBeforeLeastSum(Check check) {
        AssistRows a = tracksAt(50, 54);
        a.object(0, 50, 0, 0, 0);
        a.object(0, 48.5, 0, 0, 0);
        a.step(0, 0);
        check.same("the second takes the first track", a.track(0, 3), 4925);
        check.same("the first one makes way", a.track(1, 3), 5200);
        check.same("none is made", tracksOf(a), 2);
    }

    private static void leastSum(Check check) {
        AssistRows a = tracksAt(50, 51);
        a.object(0, 51, 0, 0, 0);
        a.object(0, 50, 0, 0, 0);
        a.step(0, 0);
        check.same("the sum 0", a.track(0, 3), 5000);
        check.same("the sum 0", a.track(1, 3), 5100);
        AssistRows b = tracksAt(50);
        b.object(0, 54, 0, 0, 0);
        b.object(0, 52, 0, 0, 0);
        b.object(0, 47, 0, 0, 0);
        b.step(0, 0);
        check.same("one track, the nearest measure", b.track(0, 3), 5100);
        check.same("the others are made in order", b.track(1, 3), 5400);
        check.same("the others are made in order", b.track(2, 3), 4700);
    }

    /** Two tracks; which of them a measure at (50, 0) is joined to tells the lesser cost. */
    private static int nearer(double x0, double y0, double x1, double y1) {
        AssistRows a = new AssistRows();
        a.object(0, x0, y0, 0, 0);
        a.object(0, x1, y1, 0, 0);
        a.step(0, 0);
        a.object(0, 50, 0, 0, 0);
        a.step(0, 0);
        return a.track(0, 2) == 0 ? 0 : 1;
    }

    private static void costIsOfBothSides(Check check) {
        check.same("200 against 100 + 50", nearer(52, 0, 51, 0.5), 1);
        check.same("100 + 150 against 200", nearer(49, 1.5, 48, 0), 1);
        check.same("200 aside against 150 ahead", nearer(50, -2, 51.5, 0), 1);
        check.same("200 ahead against 200 aside", nearer(52, 0, 50, 2), 0);
        check.same("200 aside against 200 ahead", nearer(50, 2, 52, 0), 0);
    }

    private static void firstOfEquals(Check check) {
        AssistRows a = tracksAt(50, 54);
        a.object(0, 52, 0, 0, 0);
        a.step(0, 0);
        check.same("the least number", a.track(0, 3), 5100);
        check.same("the other coasts", a.track(1, 2), 1);
        AssistRows b = tracksAt(51, 50);
        b.object(0, 52, 0, 10, 0);
        b.object(0, 53, 0, 20, 0);
        b.step(0, 0);
        check.same("400 either way, the first measure chooses", b.track(0, 5), 250);
        check.same("400 either way, the second follows", b.track(1, 5), 500);
        AssistRows c = tracksAt(50);
        c.object(0, 48, 0, 0, 0);
        c.object(0, 52, 0, 0, 0);
        c.step(0, 0);
        check.same("the first measure is joined", c.track(0, 3), 4900);
        check.same("joined to none comes last", c.track(1, 3), 5200);
    }

    private static void costsAreCut(Check check) {
        AssistRows a = tracksAt(50.0, 52.015625);
        a.object(0, 51.0078125, 0, 0, 0);
        a.step(0, 0);
        check.same("100 each when cut, so the first", a.track(0, 2), 0);
        AssistRows b = tracksAt(52.015625, 50.0);
        b.object(0, 51.00390625, 0, 0, 0);
        b.step(0, 0);
        check.same("101 and 100 when cut", b.track(1, 2), 0);
        AssistRows c = tracksAt(50.00390625, 51.99609375);
        c.object(0, 51, 0, 0, 0);
        c.object(0, 51.00390625, 0, 0, 0);
        c.step(0, 0);
        check.same("each is cut, not their sum", c.track(0, 3), 5050);
    }

    private static void madeTracks(Check check) {
        AssistRows a = tracksAt(10, 30, 50, 70);
        for (int n = 0; n < 3; n++) {
            a.object(0, 10, 0, 0, 0);
            a.object(0, 50, 0, 0, 0);
            a.object(0, 70, 0, 0, 0);
            a.step(0, 0);
        }
        check.same("it coasts", a.track(1, 2), 3);
        a.object(0, 110, 0, 0, 0);
        a.step(0, 0);
        check.same("its number is taken until it is gone", a.track(4, 3), 11000);
        check.same("it is gone", a.track(1, 0), 0);
        a.object(0, 130, 4, 7, 0);
        a.step(0, 0);
        check.same("the least number that is not there", a.track(1, 3), 13000);
        check.same("SURE 1", a.track(1, 1), 1);
        check.same("COAST 0", a.track(1, 2), 0);
        check.same("Y as told", a.track(1, 4), 400);
        check.same("V as told", a.track(1, 5), 700);
    }

    private static void noNumberIsLeft(Check check) {
        AssistRows a = tracksAt(10, 30, 50, 70);
        for (double x : new double[] {90, 110, 130}) {
            a.object(1, x, 0, 0, 0);
        }
        a.step(0, 0);
        a.object(0, 150, 1, 5, 0);
        a.object(0, 170, 1, 5, 0);
        a.object(1, 190, 1, 5, 0);
        check.same("a step all the same", a.step(0, 0), 0);
        check.same("the last number", a.track(7, 3), 15000);
        check.same("all are there", tracksOf(a), 8);
        for (int n = 0; n < 2; n++) {
            a.object(0, 170, 1, 5, 0);
            a.step(0, 0);
        }
        check.same("lost while none is free, four are gone", tracksOf(a), 4);
        a.object(0, 170, 1, 5, 0);
        a.step(0, 0);
        check.same("made when one is", a.track(0, 3), 17000);
    }

    private static void sensorsDiffer(Check check) {
        check.same("5 apart", modeOfTold(10, 15, 3), 0);
        check.same("more than 5 apart", modeOfTold(10, Math.nextUp(15.0), 3), 6);
        check.same("the other way", modeOfTold(20, 14.5, 3), 6);
        check.same("two steps only", modeOfTold(10, 20, 2), 0);
        AssistRows a = new AssistRows();
        for (int n = 0; n < 4; n++) {
            a.object(0, 60, 0, 10, 0);
            a.object(1, 60, n == 2 ? 10 : 0, 20, 0);
            a.step(0, 0);
        }
        check.same("a step between that does not count", a.mode(), 1);
    }

    /** Steps in which sensor 0 tells one speed and sensor 1 another one of a thing far aside. */
    private static int modeOfTold(double v0, double v1, int steps) {
        AssistRows a = new AssistRows();
        for (int n = 0; n < steps; n++) {
            a.object(0, 60, 15, v0, 0);
            a.object(1, 60, 15, v1, 0);
            a.step(0, 0);
        }
        return a.mode();
    }

    private static void coasting(Check check) {
        AssistRows a = new AssistRows();
        for (int n = 0; n < 3; n++) {
            a.object(0, 50, 0, 0, 0);
            a.step(0, 0);
        }
        int[] sure = {2, 1, 1};
        for (int n = 1; n <= 3; n++) {
            a.step(0, 0);
            check.same("COAST", a.track(0, 2), n);
            check.same("SURE", a.track(0, 1), sure[n - 1]);
        }
        a.object(1, 50, 0, 0, 0);
        a.step(0, 0);
        check.same("COAST is 0 again", a.track(0, 2), 0);
        check.same("SURE rises again", a.track(0, 1), 2);
        for (int n = 1; n <= 3; n++) {
            a.step(0, 0);
        }
        check.same("still there", a.track(0, 0), 1);
        a.step(0, 0);
        check.same("gone with 4", a.track(0, 0), 0);
    }

    private static void leaving(Check check) {
        AssistRows a = new AssistRows();
        a.object(0, 200, 0, 60, 0);
        a.object(0, 10, 0, 0, 0);
        a.step(10, 0);
        a.step(10, 1);
        check.same("250 is there", a.track(0, 3), 25000);
        check.same("0 is there", a.track(1, 0), 1);
        check.same("at 0", a.time(1), 0.0);
        a.step(10, 1.0009765625);
        check.same("above 250", a.track(0, 0), 0);
        check.same("below 0", a.track(1, 0), 0);
        AssistRows b = new AssistRows();
        b.object(0, 1, 0, 0, 0);
        b.step(2, 0);
        b.object(0, 1, 0, 0, 1);
        b.step(2, 1);
        check.same("X is looked at after joining: 0", b.track(0, 0), 1);
        check.same("SURE of it", b.track(0, 1), 2);
        b.object(0, 1, 0, 0, 2);
        b.step(2, 2);
        check.same("X is looked at after joining: -0.5", b.track(0, 0), 0);
        check.same("it was joined, nothing was made", tracksOf(b), 0);
    }
}
