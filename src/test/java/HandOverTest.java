/** Promise 14: handOver. When it is over, and what comes of it, is told by StoppingTest. */
final class HandOverTest {
    public static void main(String[] args) {
        Check check = new Check("HandOverTest");
        atATime(check);
        notBelowNow(check);
        oneWasAsked(check);
        handsAreOn(check);
        itIsStopping(check);
        check.end();
    }

    private static void atATime(Check check) {
        check.sentence("A hand-over is asked at a time (as above): 1.");
        AssistRows a = new AssistRows();
        a.hands(false, 0);
        check.same("for later", a.handOver(20), 1);
        check.same("asked", a.step(1, 0), 4);
        check.same("9.99.. after it", a.step(1, Math.nextDown(30.0)), 4);
        check.same("10 after it", a.step(1, 30), 5);
    }

    private static void notBelowNow(Check check) {
        check.sentence("A hand-over is asked at a time (as above): 1. -2");
        new Range(check).ofTime("t", (a, t) -> a.handOver(t));
        AssistRows a = new AssistRows();
        a.hands(false, 0);
        a.step(1, 5);
        check.same("below NOW", a.handOver(Math.nextDown(5.0)), -2);
        check.same("above 100000", a.handOver(Math.nextUp(100000.0)), -2);
        check.same("so none was asked", a.step(1, 5), 0);
        check.same("NOW", a.handOver(5), 1);
        AssistRows b = new AssistRows();
        b.hands(false, 0);
        check.same("100000", b.handOver(100000), 1);
    }

    private static void oneWasAsked(Check check) {
        check.sentence("-3 one was asked");
        AssistRows a = new AssistRows();
        a.hands(false, 0);
        check.same("none was", a.handOver(2), 1);
        check.same("one was", a.handOver(2), -3);
        check.same("one was, at another time", a.handOver(9), -3);
        check.same("-2 before -3", a.handOver(-1), -2);
        check.same("9.99.. after the first one", a.step(1, Math.nextDown(12.0)), 4);
        check.same("10 after the first one", a.step(1, 12), 5);
        new Refusal(check).in(State.ASKED, "one was asked", b -> b.handOver(12), -3);
    }

    private static void handsAreOn(Check check) {
        check.sentence("the hands are ON");
        AssistRows a = new AssistRows();
        check.same("ON", a.handOver(0), -3);
        a.hands(false, 0);
        check.same("none was asked by that", a.step(1, 0), 0);
        check.same("off", a.handOver(0), 1);
        Refusal refusal = new Refusal(check);
        for (State state : new State[] {State.NEW, State.FULL, State.DRIVING}) {
            refusal.in(state, "ON", b -> b.handOver(12), -3);
        }
    }

    private static void itIsStopping(Check check) {
        check.sentence("or it is STOPPING");
        AssistRows a = Scene.stopping(1);
        check.same("STOPPING, off", a.handOver(10), -3);
        a.hands(true, 10);
        check.same("STOPPING, ON", a.handOver(10), -3);
        a.step(1, 10);
        a.hands(false, 10);
        check.same("STOPPING still, off again", a.handOver(10), -3);
        a.hands(true, 10);
        check.same("it ends", a.step(0, 10), 0);
        a.hands(false, 10);
        check.same("it has ended", a.handOver(10), 1);
        new Refusal(check).in(State.STOPPING, "STOPPING", b -> b.handOver(12), -3);
    }
}
