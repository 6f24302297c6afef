/** Point 6 of a step: hands off, stopping, and when a hand-over is over. */
final class StoppingTest {
    public static void main(String[] args) {
        Check check = new Check("StoppingTest");
        off(check);
        offIf40(check);
        askedIf10(check);
        handsAreNotOn(check);
        itEnds(check);
        overWithHandsOn(check);
        overWithStopping(check);
        handsByItselfEndsNone(check);
        check.end();
    }

    private static void off(Check check) {
        check.sentence("OFF is the time less that at which the hands were told to be off, if they are not ON.");
        AssistRows a = new AssistRows();
        a.hands(false, 2);
        check.same("a STEP before they were off", a.step(1, 1), 0);
        check.same("14.99..", a.step(1, Math.nextDown(17.0)), 0);
        check.same("15", a.step(1, 17), 4);
        a.hands(false, 17);
        check.same("told again they are off since 2", a.step(1, 17), 4);
        a.hands(true, 18);
        check.same("ON", a.step(1, 18), 0);
        check.same("ON for long", a.step(1, 90), 0);
        a.hands(false, 100);
        check.same("off since 100, 14.99..", a.step(1, Math.nextDown(115.0)), 0);
        check.same("15", a.step(1, 115), 4);
    }

    private static void offIf40(Check check) {
        check.sentence("STOPPING begins if OFF is 40 or more");
        AssistRows a = new AssistRows();
        a.hands(false, 2);
        check.same("39.99..", a.step(1, Math.nextDown(42.0)), 4);
        check.same("A is that of the SPEED", a.wish(0), -0.5);
        check.same("40", a.step(1, 42), 5);
        check.same("A is that of STOPPING", a.wish(0), -2.0);
        AssistRows b = new AssistRows();
        b.hands(false, 2);
        check.same("more than 40", b.step(1, 100000), 5);
    }

    private static void askedIf10(Check check) {
        check.sentence("or if a hand-over was asked 10 or more before");
        AssistRows a = new AssistRows();
        a.hands(false, 0);
        a.handOver(3);
        check.same("a STEP before it was asked for", a.step(1, 2), 4);
        check.same("9.99..", a.step(1, Math.nextDown(13.0)), 4);
        check.same("10", a.step(1, 13), 5);
        AssistRows b = new AssistRows();
        b.hands(false, 0);
        b.handOver(3);
        check.same("more than 10", b.step(1, 14.5), 5);
        AssistRows c = new AssistRows();
        c.hands(false, 0);
        check.same("none was asked", c.step(1, 14.5), 0);
    }

    private static void handsAreNotOn(Check check) {
        check.sentence("and the hands are not ON");
        AssistRows a = asked();
        a.hands(true, 5);
        check.same("asked 10 before, but ON", a.step(1, 10), 0);
        AssistRows b = new AssistRows();
        b.hands(false, 0);
        b.hands(true, 39);
        check.same("off 40 before, but ON", b.step(1, 40), 0);
        AssistRows c = asked();
        c.hands(true, 5);
        c.hands(false, 6);
        check.same("asked 10 before, off again", c.step(1, 10), 5);
    }

    /** Hands off and a hand-over asked, both at 0. */
    private static AssistRows asked() {
        AssistRows a = new AssistRows();
        a.hands(false, 0);
        a.handOver(0);
        return a;
    }

    private static void itEnds(Check check) {
        check.sentence("it ends when in a STEP the hands are ON and S is 0");
        AssistRows a = Scene.stopping(1);
        check.same("S is 0, not ON", a.step(0, 10), 5);
        a.hands(true, 10);
        check.same("ON, S is not 0", a.step(1, 10), 5);
        check.same("ON, S is just not 0", a.step(Double.MIN_VALUE, 10), 5);
        a.hands(false, 10);
        check.same("S is 0, not ON again", a.step(0, 10), 5);
        a.hands(true, 10);
        check.same("ON, and S is 0 still, but no STEP", a.mode(), 5);
        check.same("ON and S is 0", a.step(0, 10), 0);
        check.same("it has ended", a.step(1, 11), 0);
        AssistRows b = Scene.stopping(1);
        b.hands(true, 10);
        check.same("a 0 with a sign is 0", b.step(-0.0, 10), 0);
        AssistRows c = Scene.stopping(1);
        c.hands(true, 10);
        c.step(0, 10);
        c.hands(false, 10);
        check.same("off since 10 it begins anew: 39.99..", c.step(1, Math.nextDown(50.0)), 4);
        check.same("40", c.step(1, 50), 5);
    }

    private static void overWithHandsOn(Check check) {
        check.sentence("A hand-over that was asked is over when in a STEP the hands are ON");
        AssistRows a = asked();
        check.same("a STEP in which they are off", a.step(1, 5), 4);
        check.same("it is asked still", a.handOver(5), -3);
        a.hands(true, 5);
        check.same("a STEP in which they are ON", a.step(1, 5), 0);
        a.hands(false, 5);
        check.same("it is over", a.step(1, 5), 0);
        check.same("10 after it was asked", a.step(1, 10), 0);
        check.same("another one may be asked", a.handOver(10), 1);
        check.same("9.99.. after that", a.step(1, Math.nextDown(20.0)), 4);
        check.same("10 after that", a.step(1, 20), 5);
        AssistRows b = asked();
        b.hands(true, 5);
        check.same("a refused STEP is none", b.step(71, 5), -2);
        b.hands(false, 5);
        check.same("so it is asked still", b.step(1, 5), 4);
    }

    private static void overWithStopping(Check check) {
        check.sentence("or STOPPING begins");
        AssistRows a = new AssistRows();
        a.hands(false, 0);
        a.handOver(35);
        check.same("asked", a.step(1, Math.nextDown(40.0)), 4);
        check.same("STOPPING begins by OFF", a.step(1, 40), 5);
        a.hands(true, 40);
        a.hands(false, 40);
        check.same("off again, STOPPING still", a.step(0, 40), 5);
        a.hands(true, 40);
        check.same("it ends", a.step(0, 40), 0);
        a.hands(false, 40);
        check.same("10 after it was asked", a.step(1, 46), 0);
        check.same("it is over, another one may be asked", a.handOver(46), 1);
    }

    private static void handsByItselfEndsNone(Check check) {
        check.sentence("(hands() by itself ends none)");
        AssistRows a = asked();
        a.hands(true, 0);
        check.same("asked still while they are ON", a.handOver(0), -3);
        a.hands(false, 0);
        check.same("asked still when they are off again", a.handOver(0), -3);
        check.same("and in the STEP", a.step(1, 5), 4);
        AssistRows b = Scene.stopping(0);
        b.hands(true, 10);
        b.hands(false, 10);
        check.same("nor does it end STOPPING", b.step(0, 10), 5);
    }
}
