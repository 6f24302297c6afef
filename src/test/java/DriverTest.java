/** Promise 9: driver. */
final class DriverTest {
    public static void main(String[] args) {
        Check check = new Check("DriverTest");
        ranges(check);
        orderOfRefusals(check);
        kept(check);
        check.end();
    }

    private static void ranges(Check check) {
        AssistRows a = new AssistRows();
        for (int kind = 0; kind < 3; kind++) {
            double least = kind == 2 ? -1 : 0;
            check.same("least", a.driver(kind, least), 1);
            check.same("most", a.driver(kind, 1), 1);
            check.same("below", a.driver(kind, Math.nextDown(least)), -2);
            check.same("above", a.driver(kind, Math.nextUp(1.0)), -2);
            check.same("0 with a sign", a.driver(kind, -0.0), 1);
            for (double v : Scene.NO_NUMBERS) {
                check.same("driver(" + kind + ", " + v + ")", a.driver(kind, v), -2);
            }
        }
    }

    private static void orderOfRefusals(Check check) {
        AssistRows a = new AssistRows();
        for (int kind : new int[] {-1, 3, Integer.MIN_VALUE, Integer.MAX_VALUE}) {
            check.same("kind " + kind, a.driver(kind, 0), -1);
            check.same("-1 before -2", a.driver(kind, Double.NaN), -1);
        }
    }

    private static void kept(Check check) {
        AssistRows a = new AssistRows();
        a.driver(0, 0.5);
        a.driver(0, 2);
        a.step(0, 0);
        check.same("the pedal as it was told", a.wish(0), 1.5);
        check.same("the pedal's mode", a.mode(), 2);
        a.driver(0, 0);
        a.driver(1, 0.5);
        a.driver(1, -1);
        a.step(0, 0);
        check.same("the brake as it was told", a.wish(0), -4.5);
        check.same("the brake's mode", a.mode(), 2);
        a.driver(1, 0);
        a.step(0, 0);
        check.same("neither", a.mode(), 0);
        a.lane(-5, 0, 0);
        a.driver(2, 1);
        a.driver(2, Double.NaN);
        a.step(0, 0);
        check.same("the driver steers", a.wish(1), 0.0);
    }
}
