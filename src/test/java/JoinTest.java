/** Point 2 of a step: measures joined to tracks, and tracks that are made. */
final class JoinTest {
    public static void main(String[] args) {
        Check check = new Check("JoinTest");
        sensor0ThenSensor1(check);
        eachToOneAtMost(check);
        aheadAtMost5(check);
        asideAtMost2(check);
        whatItCosts(check);
        cutToAWholeNumber(check);
        mostJoined(check);
        leastSum(check);
        firstOne(check);
        noneComesLast(check);
        halfWay(check);
        sure5AtMost(check);
        leastNumberNotThere(check);
        noneIsFree(check);
        check.end();
    }

    private static void sensor0ThenSensor1(Check check) {
        check.sentence("For SENSOR 0, then 1");
        AssistRows a = new AssistRows();
        a.object(1, 50, 0, 0, 0);
        a.object(0, 90, 0, 0, 0);
        a.step(0, 0);
        check.same("SENSOR 0 makes the first TRACK", a.track(0, 3), 9000);
        check.same("SENSOR 1 the second", a.track(1, 3), 5000);
        a.object(1, 92, 0, 0, 0);
        a.object(0, 94, 0, 0, 0);
        a.step(0, 0);
        check.same("90 and 94, then 92 and 92", a.track(0, 3), 9200);
        AssistRows b = Scene.tracksAt(50);
        b.object(0, 54, 0, 0, 0);
        b.object(1, 57, 0, 0, 0);
        b.step(0, 0);
        check.same("SENSOR 1 sees where SENSOR 0 brought it", b.track(0, 3), 5450);
        check.same("so none is made", Scene.tracksOf(b), 1);
    }

    private static void eachToOneAtMost(Check check) {
        check.sentence("are joined to TRACKS, each to one at most, and no two to one");
        AssistRows a = Scene.tracksAt(50, 52);
        a.object(0, 51, 0, 0, 0);
        a.step(0, 0);
        check.same("a MEASURE near two is joined to one", a.track(0, 3), 5050);
        check.same("and not to the other", a.track(1, 3), 5200);
        AssistRows b = Scene.tracksAt(50);
        b.object(0, 51, 0, 0, 0);
        b.object(0, 52, 0, 0, 0);
        b.step(0, 0);
        check.same("of two near one TRACK one is joined", b.track(0, 3), 5050);
        check.same("the other one makes a TRACK", b.track(1, 3), 5200);
        AssistRows c = Scene.tracksAt(50);
        c.object(0, 51, 0, 0, 0);
        c.object(1, 52.5, 0, 0, 0);
        c.step(0, 0);
        check.same("of two SENSORS both are", c.track(0, 3), 5150);
        check.same("so none is made", Scene.tracksOf(c), 1);
        AssistRows d = new AssistRows();
        d.object(0, 50, 0, 0, 0);
        d.object(0, 50, 0, 0, 0);
        d.step(0, 0);
        check.same("what one SENSOR makes is not joined by its own next one", Scene.tracksOf(d), 2);
    }

    /** Whether a measure at (x, y) is joined to a track at (50, 1); otherwise it makes one. */
    private static int joined(double x, double y) {
        AssistRows a = new AssistRows();
        Scene.see(a, 50, 1, 0, 0);
        Scene.see(a, x, y, 0, 0);
        return a.track(1, 0) == 0 && a.track(0, 2) == 0 ? 1 : 0;
    }

    private static void aheadAtMost5(Check check) {
        check.sentence("a MEASURE may be joined to a TRACK if |x - X| is at most 5");
        check.same("5 farther", joined(55, 1), 1);
        check.same("more", joined(Math.nextUp(55.0), 1), 0);
        check.same("5 nearer", joined(45, 1), 1);
        check.same("more", joined(Math.nextDown(45.0), 1), 0);
    }

    private static void asideAtMost2(Check check) {
        check.sentence("and |y - Y| at most 2");
        check.same("2 to the left", joined(50, 3), 1);
        check.same("more", joined(50, Math.nextUp(3.0)), 0);
        check.same("2 to the right", joined(50, -1), 1);
        check.same("more", joined(50, -1 - 0x1p-51), 0);
        check.same("5 and 2", joined(45, 3), 1);
        check.same("5 and more than 2", joined(45, Math.nextUp(3.0)), 0);
        check.same("more than 5, and 2", joined(Math.nextDown(45.0), 3), 0);
    }

    /** Two tracks; which of them a measure at (50, 0) is joined to tells the lesser cost. */
    private static int nearer(double x0, double y0, double x1, double y1) {
        AssistRows a = new AssistRows();
        a.object(0, x0, y0, 0, 0);
        a.object(0, x1, y1, 0, 0);
        a.step(0, 0);
        Scene.see(a, 50, 0, 0, 0);
        return a.track(0, 2) == 0 ? 0 : 1;
    }

    private static void whatItCosts(Check check) {
        check.sentence("that costs 100 * |x - X| + 100 * |y - Y|");
        check.same("200 against 100 + 50", nearer(52, 0, 51, 0.5), 1);
        check.same("100 + 150 against 200", nearer(49, 1.5, 48, 0), 1);
        check.same("200 aside against 150 ahead", nearer(50, -2, 51.5, 0), 1);
        check.same("150 aside against 200 ahead", nearer(50, -1.5, 52, 0), 0);
        check.same("201 ahead against 200 aside", nearer(52.015625, 0, 50, 2), 1);
        check.same("200 each", nearer(52, 0, 50, 2), 0);
        check.same("200 each", nearer(50, 2, 52, 0), 0);
        check.same("201 nearer against 200 farther", nearer(47.984375, 0, 52, 0), 1);
        check.same("101 to the right against 100 to the left", nearer(50, -1.015625, 50, 1), 1);
    }

    private static void cutToAWholeNumber(Check check) {
        check.sentence("cut to a whole number");
        check.holds("the last one below 101", 100 * (50 - 48.99) < 101);
        check.holds("the first one above 101", 100 * (50 - Math.nextDown(48.99)) > 101);
        check.same("100.99.. is 100, as is the other", nearer(48.99, 0, 51, 0), 0);
        check.same("101.00.. is 101, the other 100", nearer(Math.nextDown(48.99), 0, 51, 0), 1);
        check.same("0.78 is 0, as is the other", nearer(50.0078125, 0, 50, 0), 0);
        check.same("100.78 + 50.78 is 151, the other 150", nearer(51.0078125, 0.5078125, 51.5, 0), 1);
        AssistRows a = Scene.tracksAt(50.00390625, 51.99609375);
        a.object(0, 51, 0, 0, 0);
        a.object(0, 51.00390625, 0, 0, 0);
        a.step(0, 0);
        check.same("99 + 99 and 100 + 99: each is cut, not the sum", a.track(0, 3), 5050);
    }

    private static void mostJoined(Check check) {
        check.sentence("Of all ways that with the most joined");
        AssistRows a = Scene.tracksAt(50, 54);
        a.object(0, 50, 0, 0, 0);
        a.object(0, 48.5, 0, 0, 0);
        a.step(0, 0);
        check.same("two at 550 rather than one at 0", a.track(0, 3), 4925);
        check.same("the first one makes way", a.track(1, 3), 5200);
        check.same("none is made", Scene.tracksOf(a), 2);
        AssistRows b = Scene.tracksAt(50, 55);
        b.object(0, 50, 0, 0, 0);
        b.object(0, 49.5, 0, 0, 0);
        b.step(0, 0);
        check.same("the last place in which it makes way", b.track(1, 3), 5250);
        AssistRows c = Scene.tracksAt(50, Math.nextUp(55.0));
        c.object(0, 50, 0, 0, 0);
        c.object(0, 49.5, 0, 0, 0);
        c.step(0, 0);
        check.same("beyond it only one can be joined", c.track(0, 3), 5000);
        check.same("the other one makes a TRACK", c.track(2, 3), 4950);
        AssistRows d = Scene.tracksAt(20, 24, 28, 32);
        for (double x : new double[] {24, 28, 32, 16}) {
            d.object(0, x, 0, 0, 0);
        }
        d.step(0, 0);
        check.same("four of four, at 400 each", Scene.tracksOf(d), 4);
        AssistRows e = Scene.tracksAt(20, 24, 28, 32);
        for (double x : new double[] {24, 28, 37, 15}) {
            e.object(0, x, 0, 0, 0);
        }
        e.step(0, 0);
        check.same("four of four, at the edges", Scene.tracksOf(e), 4);
    }

    private static void leastSum(Check check) {
        check.sentence("of these that with the least sum of costs");
        AssistRows a = Scene.tracksAt(50, 51);
        a.object(0, 51, 0, 0, 0);
        a.object(0, 50, 0, 0, 0);
        a.step(0, 0);
        check.same("0 rather than 200", a.track(0, 3), 5000);
        check.same("0 rather than 200", a.track(1, 3), 5100);
        AssistRows b = Scene.tracksAt(50, 52);
        b.object(0, 51.5, 0, 0, 0);
        b.object(0, 54, 0, 0, 0);
        b.step(0, 0);
        check.same("150 + 200 is 350", b.track(0, 3), 5075);
        check.same("as is 50 + 400 not", b.track(1, 3), 5300);
        AssistRows c = Scene.tracksAt(50);
        c.object(0, 54, 0, 0, 0);
        c.object(0, 52, 0, 0, 0);
        c.object(0, 47, 0, 0, 0);
        c.step(0, 0);
        check.same("200 rather than 400 or 300", c.track(0, 3), 5100);
        check.same("one less is less, though it comes later", laterOneIsJoined(51.984375), 1);
        check.same("the same is not", laterOneIsJoined(52), 0);
    }

    /** A measure at 48 costs 200; whether a later one at x is joined instead of it. */
    private static int laterOneIsJoined(double x) {
        AssistRows a = Scene.tracksAt(50);
        a.object(0, 48, 0, 10, 0);
        a.object(0, x, 0, 20, 0);
        a.step(0, 0);
        return a.track(0, 5) == 500 ? 1 : 0;
    }

    private static void firstOne(Check check) {
        check.sentence("of these the first one, MEASURE by MEASURE in the order in which they came, by the number of the TRACK");
        AssistRows a = Scene.tracksAt(50, 54);
        a.object(0, 52, 0, 0, 0);
        a.step(0, 0);
        check.same("the least number", a.track(0, 3), 5100);
        check.same("the other coasts", a.track(1, 2), 1);
        AssistRows b = Scene.tracksAt(51, 50);
        b.object(0, 52, 0, 10, 0);
        b.object(0, 53, 0, 20, 0);
        b.step(0, 0);
        check.same("400 either way, the first MEASURE chooses", b.track(0, 5), 250);
        check.same("the second one follows", b.track(1, 5), 500);
        AssistRows c = Scene.tracksAt(90, 52, 54, 50);
        c.object(0, 52, 0, 0, 0);
        c.object(0, 52, 0, 0, 0);
        c.object(0, 52, 0, 20, 0);
        c.step(0, 0);
        check.same("the third one takes what is left, by the order", c.track(3, 5), 500);
    }

    private static void noneComesLast(Check check) {
        check.sentence("(joined to none comes last)");
        AssistRows a = Scene.tracksAt(50);
        a.object(0, 48, 0, 0, 0);
        a.object(0, 52, 0, 0, 0);
        a.step(0, 0);
        check.same("the first MEASURE is joined", a.track(0, 3), 4900);
        check.same("the second one to none", a.track(1, 3), 5200);
        AssistRows b = Scene.tracksAt(10, 30, 50, 70, 90, 110, 130, 150);
        b.object(0, 148, 0, 10, 0);
        b.object(0, 152, 0, 20, 0);
        b.step(0, 0);
        check.same("TRACK 7 comes before none", b.track(7, 5), 250);
    }

    private static void halfWay(Check check) {
        check.sentence("Joined: X becomes X + 0.5 * (x - X), Y becomes Y + 0.5 * (y - Y), V becomes V + 0.25 * (v - V)");
        AssistRows a = new AssistRows();
        Scene.see(a, 50, 1, 20, 20);
        Scene.see(a, 53, 0, 24, 20);
        check.same("X", a.track(0, 3), 5150);
        check.same("Y", a.track(0, 4), 50);
        check.same("V", a.track(0, 5), 2100);
        Scene.see(a, 50.5, -1.5, 13, 20);
        check.same("X, back", a.track(0, 3), 5100);
        check.same("Y, back", a.track(0, 4), -50);
        check.same("V, back", a.track(0, 5), 1900);
    }

    private static void sure5AtMost(Check check) {
        check.sentence("SURE is one more, 5 at most.");
        AssistRows a = new AssistRows();
        for (int sure = 1; sure <= 5; sure++) {
            Scene.see(a, 50, 0, 0, 0);
            check.same("one more", a.track(0, 1), sure);
        }
        Scene.see(a, 50, 0, 0, 0);
        check.same("5 at most", a.track(0, 1), 5);
        AssistRows b = new AssistRows();
        Scene.seeTwice(b, 50, 0, 0, 0, 0, 0);
        check.same("made by SENSOR 0, joined by SENSOR 1", b.track(0, 1), 2);
        Scene.seeTwice(b, 50, 0, 0, 0, 0, 0);
        check.same("two in a STEP", b.track(0, 1), 4);
        Scene.seeTwice(b, 50, 0, 0, 0, 0, 0);
        check.same("5 at most", b.track(0, 1), 5);
    }

    private static void leastNumberNotThere(Check check) {
        check.sentence("MEASURES that are joined to none become TRACKS, in order, with the least number that is not THERE, SURE 1");
        AssistRows a = new AssistRows();
        a.object(0, 70, -1, 5, 0);
        a.object(0, 30, 1, 6, 0);
        a.step(0, 0);
        check.same("in order", a.track(0, 3), 7000);
        check.same("in order", a.track(1, 3), 3000);
        AssistRows b = Scene.tracksAt(10, 30, 50, 70);
        for (int n = 0; n < 3; n++) {
            seeAllBut30(b);
        }
        check.same("it coasts", b.track(1, 2), 3);
        b.object(1, 110, 0, 0, 0);
        seeAllBut30(b);
        check.same("its number is taken until it is gone", b.track(4, 3), 11000);
        check.same("it is gone", b.track(1, 0), 0);
        b.object(1, 150, 0, 0, 0);
        b.object(0, 130, 4, 7, 0);
        seeAllBut30(b);
        check.same("the least number", b.track(1, 3), 13000);
        check.same("Y as told", b.track(1, 4), 400);
        check.same("V as told", b.track(1, 5), 700);
        check.same("SURE 1", b.track(1, 1), 1);
        check.same("COAST 0", b.track(1, 2), 0);
        check.same("the next one", b.track(5, 3), 15000);
        AssistRows c = Scene.tracksAt(0, 50);
        c.object(0, 45, 0, 0, 1);
        c.object(0, 90, 0, 0, 1);
        c.step(10, 1);
        check.same("below 0 it has its number until the tracks are looked through", c.track(2, 3), 9000);
        check.same("then it is gone", c.track(0, 0), 0);
    }

    private static void seeAllBut30(AssistRows a) {
        a.object(0, 10, 0, 0, 0);
        a.object(0, 50, 0, 0, 0);
        a.object(0, 70, 0, 0, 0);
        a.step(0, 0);
    }

    private static void noneIsFree(Check check) {
        check.sentence("(when there is none they are lost)");
        AssistRows a = Scene.tracksAt(10, 30, 50, 70, 90, 110, 130);
        a.object(0, 150, 1, 5, 0);
        a.object(0, 170, 1, 5, 0);
        a.object(1, 190, 1, 5, 0);
        check.same("a STEP all the same", a.step(0, 0), 0);
        check.same("the last number is given", a.track(7, 3), 15000);
        check.same("the others are lost", Scene.tracksOf(a), 8);
        check.same("none waits for the next STEP", a.object(0, 170, 1, 5, 0), 1);
        a.step(0, 0);
        check.same("lost again", a.track(0, 3), 1000);
        a.step(0, 0);
        a.object(0, 170, 1, 5, 0);
        a.step(0, 0);
        check.same("seven have gone in this STEP, but after it was lost", Scene.tracksOf(a), 1);
        Scene.see(a, 170, 1, 5, 0);
        check.same("now there is one", a.track(0, 3), 17000);
    }
}
