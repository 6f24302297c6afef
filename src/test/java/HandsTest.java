/** Promise 13: hands, and OFF of point 6. */
final class HandsTest {
    public static void main(String[] args) {
        Check check = new Check("HandsTest");
        answers(check);
        ranges(check);
        off(check);
        stop(check);
        check.end();
    }

    private static void answers(Check check) {
        AssistRows a = new AssistRows();
        check.same("on already", a.hands(true, 0), 0);
        check.same("off", a.hands(false, 0), 1);
        check.same("off already", a.hands(false, 0), 0);
        check.same("on", a.hands(true, 0), 1);
    }

    private static void ranges(Check check) {
        AssistRows a = new AssistRows();
        a.step(0, 5);
        check.same("below NOW", a.hands(false, 4.5), -2);
        check.same("above", a.hands(false, Math.nextUp(100000.0)), -2);
        check.same("-2 before 0", a.hands(true, 4.5), -2);
        for (double v : Scene.NO_NUMBERS) {
            check.same("t " + v, a.hands(false, v), -2);
            check.same("t " + v, a.hands(true, v), -2);
        }
        check.same("a refusal changes nothing", a.hands(true, 5), 0);
        check.same("most", a.hands(false, 100000), 1);
        check.same("NOW", a.hands(true, 5), 1);
    }

    private static void off(Check check) {
        AssistRows a = new AssistRows();
        a.hands(false, 2);
        check.same("before it was told", a.step(1, 1), 0);
        check.same("below 15", a.step(1, Math.nextDown(17.0)), 0);
        check.same("15", a.step(1, 17), 4);
        a.hands(false, 17);
        check.same("told again changes nothing", a.step(1, 18), 4);
        a.hands(true, 18);
        check.same("the mode is that of the step", a.mode(), 4);
        check.same("on", a.step(1, 18), 0);
        a.hands(false, 20);
        check.same("off anew", a.step(1, 34.5), 0);
        check.same("off anew", a.step(1, 35), 4);
    }

    private static void stop(Check check) {
        AssistRows a = new AssistRows();
        a.hands(false, 0);
        check.same("below 40", a.step(1, Math.nextDown(40.0)), 4);
        check.same("40", a.step(1, 40), 5);
        check.same("standing, but off", a.step(0, 40), 5);
        a.hands(true, 40);
        check.same("on, but driving", a.step(1, 40), 5);
        a.hands(false, 40);
        check.same("off again", a.step(0, 40), 5);
        a.hands(true, 40);
        check.same("standing and on", a.step(-0.0, 40), 0);
        check.same("it has ended", a.step(1, 41), 0);
        a.hands(false, 41);
        check.same("off since 41", a.step(1, 80), 4);
        check.same("off since 41", a.step(1, 81), 5);
    }
}
