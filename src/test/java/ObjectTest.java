/** Promise 2: object. */
final class ObjectTest {
    public static void main(String[] args) {
        Check check = new Check("ObjectTest");
        counts(check);
        edges(check);
        wrongNumbers(check);
        orderOfRefusals(check);
        timeIsOnlyLookedAt(check);
        check.end();
    }

    private static void counts(Check check) {
        AssistRows a = new AssistRows();
        for (int n = 1; n <= 4; n++) {
            check.same("sensor 0, number " + n, a.object(0, 20 * n, 0, 0, 0), n);
            check.same("sensor 1, number " + n, a.object(1, 20 * n, 10, 0, 0), n);
        }
        check.same("sensor 0 is full", a.object(0, 100, 0, 0, 0), -4);
        check.same("sensor 1 is full", a.object(1, 100, 0, 0, 0), -4);
        a.step(0, 0);
        check.same("all eight tracks", a.track(7, 0), 1);
        check.same("the fifth was not kept", a.track(4, 3), 2000);
        check.same("empty after a step", a.object(0, 1, 1, 1, 0), 1);
        check.same("empty after a step", a.object(1, 1, 1, 1, 0), 1);
        a.step(71, 0);
        check.same("they wait on at a refused step", a.object(0, 1, 1, 1, 0), 2);
    }

    private static void edges(Check check) {
        AssistRows a = new AssistRows();
        check.same("least", a.object(0, 0, -20, -10, 0), 1);
        check.same("most", a.object(0, 200, 20, 70, 100000), 2);
        check.same("0 with a sign", a.object(0, -0.0, -0.0, -0.0, -0.0), 3);
        check.same("x below", a.object(0, -Double.MIN_VALUE, 0, 0, 0), -2);
        check.same("x above", a.object(0, Math.nextUp(200.0), 0, 0, 0), -2);
        check.same("y below", a.object(0, 0, Math.nextDown(-20.0), 0, 0), -2);
        check.same("y above", a.object(0, 0, Math.nextUp(20.0), 0, 0), -2);
        check.same("speed below", a.object(0, 0, 0, Math.nextDown(-10.0), 0), -2);
        check.same("speed above", a.object(0, 0, 0, Math.nextUp(70.0), 0), -2);
        check.same("t below", a.object(0, 0, 0, 0, -Double.MIN_VALUE), -2);
        check.same("t above", a.object(0, 0, 0, 0, Math.nextUp(100000.0)), -2);
        check.same("nothing of these waits", a.object(0, 0, 0, 0, 0), 4);
    }

    private static void wrongNumbers(Check check) {
        AssistRows a = new AssistRows();
        for (double v : Scene.NO_NUMBERS) {
            check.same("x " + v, a.object(0, v, 0, 0, 0), -2);
            check.same("y " + v, a.object(0, 0, v, 0, 0), -2);
            check.same("speed " + v, a.object(1, 0, 0, v, 0), -2);
            check.same("t " + v, a.object(1, 0, 0, 0, v), -2);
        }
        for (int sensor : new int[] {-1, 2, Integer.MIN_VALUE, Integer.MAX_VALUE}) {
            check.same("sensor " + sensor, a.object(sensor, 0, 0, 0, 0), -1);
        }
    }

    private static void orderOfRefusals(Check check) {
        AssistRows a = new AssistRows();
        check.same("-1 before -2", a.object(2, Double.NaN, 99, 99, -1), -1);
        for (int n = 0; n < 4; n++) {
            a.object(0, 1, 1, 1, 0);
        }
        check.same("-2 before -4", a.object(0, 201, 1, 1, 0), -2);
        check.same("-1 before -4", a.object(2, 1, 1, 1, 0), -1);
    }

    private static void timeIsOnlyLookedAt(Check check) {
        AssistRows a = new AssistRows();
        a.step(10, 5);
        check.same("below NOW", a.object(0, 50, 0, 20, 4.5), -2);
        check.same("NOW", a.object(0, 50, 0, 20, 5), 1);
        check.same("later", a.object(0, 90, 0, 20, 100), 2);
        a.step(10, 6);
        check.same("x as it was told", a.track(0, 3), 5000);
        check.same("x as it was told", a.track(1, 3), 9000);
    }
}
