/** Promise 14: handOver, and the hand-over of point 6. */
final class HandOverTest {
    public static void main(String[] args) {
        Check check = new Check("HandOverTest");
        refusals(check);
        stopAfterTen(check);
        overWithHandsOn(check);
        overWithTheStop(check);
        check.end();
    }

    private static void refusals(Check check) {
        AssistRows a = new AssistRows();
        a.step(0, 5);
        check.same("hands on", a.handOver(5), -3);
        check.same("-2 before -3", a.handOver(4.5), -2);
        a.hands(false, 5);
        check.same("below NOW", a.handOver(Math.nextDown(5.0)), -2);
        check.same("above", a.handOver(Math.nextUp(100000.0)), -2);
        for (double v : Scene.NO_NUMBERS) {
            check.same("t " + v, a.handOver(v), -2);
        }
        check.same("NOW", a.handOver(5), 1);
        check.same("asked already", a.handOver(5), -3);
        check.same("-2 before -3", a.handOver(4), -2);
        AssistRows b = new AssistRows();
        b.hands(false, 0);
        check.same("most", b.handOver(100000), 1);
        AssistRows c = Scene.stopping(5);
        check.same("stopping", c.mode(), 5);
        check.same("stopping", c.handOver(10), -3);
        c.hands(true, 10);
        check.same("stopping, hands on", c.handOver(10), -3);
        c.step(0, 10);
        c.hands(false, 10);
        check.same("the stop has ended", c.handOver(10), 1);
    }

    private static void stopAfterTen(Check check) {
        AssistRows a = new AssistRows();
        a.hands(false, 0);
        a.handOver(2);
        check.same("asked", a.step(1, 0), 4);
        check.same("below 10", a.step(1, Math.nextDown(12.0)), 4);
        check.same("a second asking is refused", a.handOver(12), -3);
        check.same("10", a.step(1, 12), 5);
    }

    private static void overWithHandsOn(Check check) {
        AssistRows a = new AssistRows();
        a.hands(false, 0);
        a.handOver(0);
        a.hands(true, 0);
        check.same("hands() by itself ends none", a.handOver(0), -3);
        a.hands(false, 0);
        check.same("it is asked still", a.handOver(0), -3);
        check.same("it is asked still", a.step(1, 5), 4);
        a.hands(true, 5);
        check.same("over in a step with hands on", a.step(1, 20), 0);
        a.hands(false, 20);
        check.same("over", a.step(1, 20), 0);
        check.same("asked anew", a.handOver(21), 1);
        check.same("since 21", a.step(1, 30), 4);
        check.same("since 21", a.step(1, 31), 5);
        AssistRows b = new AssistRows();
        b.hands(false, 0);
        b.handOver(0);
        b.hands(true, 0);
        check.same("hands on begin no stop", b.step(1, 50), 0);
    }

    private static void overWithTheStop(Check check) {
        AssistRows a = new AssistRows();
        a.hands(false, 0);
        a.handOver(35);
        check.same("off for 40", a.step(1, 40), 5);
        a.hands(true, 40);
        a.step(0, 40);
        a.hands(false, 40);
        check.same("the old asking is over", a.step(1, 46), 0);
        check.same("the old asking is over", a.handOver(46), 1);
    }
}
