/** Promise 9: driver. */
final class DriverTest {
    public static void main(String[] args) {
        Check check = new Check("DriverTest");
        pedal(check);
        brake(check);
        steer(check);
        eachIsItsOwn(check);
        noSuchKind(check);
        check.end();
    }

    private static double pullWith(int kind, double v) {
        AssistRows a = new AssistRows();
        a.limit(3, 3);
        a.driver(kind, v);
        a.step(0, 0);
        return a.wish(0);
    }

    private static void pedal(Check check) {
        check.sentence("kind = 0 PEDAL, 1 BRAKE (0 .. 1)");
        new Range(check).answersOne("PEDAL", 0, 1, (a, v) -> a.driver(0, v));
        check.same("0 with a sign", new AssistRows().driver(0, -0.0), 1);
        check.same("0", pullWith(0, 0), 0.0);
        check.same("0.5", pullWith(0, 0.5), 1.5);
        check.same("1", pullWith(0, 1), 3.0);
    }

    private static void brake(Check check) {
        check.sentence("kind = 0 PEDAL, 1 BRAKE (0 .. 1)");
        new Range(check).answersOne("BRAKE", 0, 1, (a, v) -> a.driver(1, v));
        check.same("0 with a sign", new AssistRows().driver(1, -0.0), 1);
        check.same("0", pullWith(1, 0), 0.0);
        check.same("0.5", pullWith(1, 0.5), -4.5);
        check.same("1", pullWith(1, 1), -9.0);
    }

    private static void steer(Check check) {
        check.sentence("2 STEER (-1 .. 1)");
        new Range(check).answersOne("STEER", -1, 1, (a, v) -> a.driver(2, v));
        for (double v : new double[] {-1, 1}) {
            AssistRows a = new AssistRows();
            a.lane(-0.25, 0, 0);
            a.driver(2, v);
            a.step(0, 0);
            check.same("STEER " + v + " is above 0.05 without its sign", a.wish(1), 0.0);
        }
    }

    /** Steering to the left by the lane, pull and steering after one kind was told as 1. */
    private static void eachIsItsOwn(Check check) {
        check.sentence("The DRIVER: kind = 0 PEDAL, 1 BRAKE (0 .. 1), 2 STEER (-1 .. 1): 1.");
        double[][] due = {{2, 0.025}, {-9, 0.025}, {0, 0}};
        for (int kind = 0; kind < 3; kind++) {
            AssistRows a = new AssistRows();
            a.lane(-0.25, 0, 0);
            a.driver(kind, 1);
            a.step(0, 0);
            check.same("A with kind " + kind, a.wish(0), due[kind][0]);
            check.same("Z with kind " + kind, a.wish(1), due[kind][1]);
            a.driver(kind, 0);
            a.step(0, 0);
            check.same("A without", a.wish(0), 0.0);
            check.same("Z without", a.wish(1), 0.025);
        }
    }

    private static void noSuchKind(Check check) {
        check.sentence("-1 there is no such kind, -2.");
        for (int kind = 0; kind <= 2; kind++) {
            check.same(kind + " is one", new AssistRows().driver(kind, 1), 1);
        }
        Refusal refusal = new Refusal(check);
        refusal.everywhere("3", a -> a.driver(3, 1), -1);
        refusal.everywhere("3 before -2", a -> a.driver(3, -2), -1);
        for (int kind : Scene.FAR) {
            refusal.everywhere("" + kind, a -> a.driver(kind, 1), -1);
            refusal.everywhere(kind + " before -2", a -> a.driver(kind, 2), -1);
        }
    }
}
