/** Promise 13: hands. */
final class HandsTest {
    public static void main(String[] args) {
        Check check = new Check("HandsTest");
        onOrNot(check);
        zeroIfItWasSo(check);
        notBelowNow(check);
        check.end();
    }

    private static void onOrNot(Check check) {
        check.sentence("The hands are ON, or not, told at a time");
        AssistRows a = new AssistRows();
        check.same("off", a.hands(false, 3), 1);
        check.same("a hand-over may be asked", a.handOver(3), 1);
        check.same("ON", a.hands(true, 0), 1);
        check.same("a STEP with hands ON", a.step(1, 20), 0);
        check.same("off, told for later", a.hands(false, 50), 1);
        check.same("before that time", a.step(1, 40), 0);
        check.same("14.99.. after it", a.step(1, Math.nextDown(65.0)), 0);
        check.same("15 after it", a.step(1, 65), 4);
    }

    private static void zeroIfItWasSo(Check check) {
        check.sentence("0 if it was so (that changes nothing)");
        AssistRows a = new AssistRows();
        check.same("ON at first", a.hands(true, 0), 0);
        check.same("off", a.hands(false, 0), 1);
        check.same("off already", a.hands(false, 0), 0);
        check.same("ON", a.hands(true, 0), 1);
        check.same("ON already", a.hands(true, 0), 0);
        Refusal refusal = new Refusal(check);
        for (State state : new State[] {State.NEW, State.FULL, State.DRIVING}) {
            refusal.in(state, "ON already", b -> b.hands(true, 12), 0);
            refusal.in(state, "ON already", b -> b.hands(true, 100000), 0);
        }
        for (State state : new State[] {State.HANDS_OFF, State.ASKED, State.STOPPING}) {
            refusal.in(state, "off already", b -> b.hands(false, 12), 0);
            refusal.in(state, "off already", b -> b.hands(false, 100000), 0);
        }
    }

    private static void notBelowNow(Check check) {
        check.sentence("(not below NOW, at most 100000)");
        new Range(check).ofTime("ON", (a, t) -> a.hands(true, t));
        new Range(check).ofTime("off", (a, t) -> a.hands(false, t));
        AssistRows a = new AssistRows();
        a.step(1, 5);
        check.same("below NOW", a.hands(false, Math.nextDown(5.0)), -2);
        check.same("-2 before 0", a.hands(true, Math.nextDown(5.0)), -2);
        check.same("100000", a.hands(false, 100000), 1);
        check.same("above", a.hands(true, Math.nextUp(100000.0)), -2);
        check.same("NOW, though they were told for later", a.hands(true, 5), 1);
    }
}
