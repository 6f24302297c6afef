/** Promise 2: object. */
final class ObjectTest {
    public static void main(String[] args) {
        Check check = new Check("ObjectTest");
        howManyWait(check);
        xIs0To200(check);
        yIsMinus20To20(check);
        speedIsMinus10To70(check);
        tIsNotBelowNow(check);
        timeIsForNothingElse(check);
        noSuchSensor(check);
        thereAreFour(check);
        check.end();
    }

    private static void howManyWait(Check check) {
        check.sentence("A MEASURE: how many of its SENSOR wait.");
        AssistRows a = new AssistRows();
        check.same("the first of SENSOR 0", a.object(0, 1, 0, 0, 0), 1);
        check.same("the second", a.object(0, 1, 0, 0, 0), 2);
        check.same("the first of SENSOR 1", a.object(1, 1, 0, 0, 0), 1);
        check.same("the third of SENSOR 0", a.object(0, 1, 0, 0, 0), 3);
        a.step(0, 0);
        check.same("the first after a STEP", a.object(0, 1, 0, 0, 0), 1);
        check.same("the first after a STEP", a.object(1, 1, 0, 0, 0), 1);
    }

    private static void xIs0To200(Check check) {
        check.sentence("x is 0 .. 200");
        new Range(check).answersOne("x", 0, 200, (a, v) -> a.object(0, v, 1, 1, 100));
        new Range(check).answersOne("x of SENSOR 1", 0, 200, (a, v) -> a.object(1, v, 1, 1, 100));
        check.same("0", toldTrack(0, 0, 0).track(0, 3), 0);
        check.same("200", toldTrack(200, 0, 0).track(0, 3), 20000);
        check.same("0 with a sign", toldTrack(-0.0, 0, 0).track(0, 0), 1);
    }

    private static void yIsMinus20To20(Check check) {
        check.sentence("y -20 .. 20");
        new Range(check).answersOne("y", -20, 20, (a, v) -> a.object(1, 1, v, 1, 100));
        check.same("-20", toldTrack(1, -20, 0).track(0, 4), -2000);
        check.same("20", toldTrack(1, 20, 0).track(0, 4), 2000);
    }

    private static void speedIsMinus10To70(Check check) {
        check.sentence("speed -10 .. 70");
        new Range(check).answersOne("speed", -10, 70, (a, v) -> a.object(0, 1, 1, v, 100));
        check.same("-10", toldTrack(1, 0, -10).track(0, 5), -1000);
        check.same("70", toldTrack(1, 0, 70).track(0, 5), 7000);
    }

    private static AssistRows toldTrack(double x, double y, double speed) {
        AssistRows a = new AssistRows();
        Scene.see(a, x, y, speed, 0);
        return a;
    }

    private static void tIsNotBelowNow(Check check) {
        check.sentence("t not below NOW and at most 100000");
        new Range(check).ofTime("t", (a, v) -> a.object(0, 1, 1, 1, v));
        new Range(check).ofTime("t of SENSOR 1", (a, v) -> a.object(1, 1, 1, 1, v));
        AssistRows a = new AssistRows();
        check.same("0 with a sign", a.object(0, 1, 1, 1, -0.0), 1);
        check.same("100000", a.object(0, 1, 1, 1, 100000), 2);
        a.step(0, 100000);
        check.same("NOW is 100000", a.object(0, 1, 1, 1, 100000), 1);
        check.same("less than it", a.object(0, 1, 1, 1, Math.nextDown(100000.0)), -2);
    }

    private static void timeIsForNothingElse(Check check) {
        check.sentence("(that is all t is for)");
        AssistRows a = new AssistRows();
        a.object(0, 50, 0, 20, 0);
        a.object(0, 90, 0, 20, 100);
        a.step(10, 6);
        check.same("told before the STEP", a.track(0, 3), 5000);
        check.same("told for after it", a.track(1, 3), 9000);
        check.same("NOW is that of the STEP", a.step(10, 6), 0);
    }

    private static void noSuchSensor(Check check) {
        check.sentence("-1 there is no such SENSOR");
        check.same("0 is one", new AssistRows().object(0, 1, 1, 1, 0), 1);
        check.same("1 is one", new AssistRows().object(1, 1, 1, 1, 0), 1);
        Refusal refusal = new Refusal(check);
        refusal.everywhere("2", a -> a.object(2, 1, 1, 1, 100), -1);
        for (int sensor : Scene.FAR) {
            refusal.everywhere("" + sensor, a -> a.object(sensor, 1, 1, 1, 100), -1);
        }
    }

    private static void thereAreFour(Check check) {
        check.sentence("-4 there are 4");
        for (int number = 0; number < 2; number++) {
            int sensor = number;
            AssistRows a = new AssistRows();
            for (int n = 1; n <= 4; n++) {
                check.same("number " + n, a.object(sensor, 20 * n, 0, 0, 0), n);
            }
            check.same("a fifth", a.object(sensor, 100, 0, 0, 0), -4);
            check.same("the other SENSOR's first", a.object(1 - sensor, 150, 0, 0, 0), 1);
            a.step(0, 0);
            check.same("the four and the other one", Scene.tracksOf(a), 5);
            new Refusal(check).in(State.FULL, "a fifth", b -> b.object(sensor, 100, 0, 0, 100), -4);
        }
    }
}
