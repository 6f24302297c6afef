/** Promise 1: a new object. */
final class NewObjectTest {
    public static void main(String[] args) {
        Check check = new Check("NewObjectTest");
        nothingIsThere(check);
        limitsAreNotTold(check);
        objectsAreApart(check);
        check.end();
    }

    private static void nothingIsThere(Check check) {
        AssistRows a = new AssistRows();
        for (int i = 0; i < 8; i++) {
            for (int what = 0; what < 6; what++) {
                check.same("track(" + i + ", " + what + ")", a.track(i, what), 0);
            }
            check.same("time(" + i + ")", a.time(i), -1.0);
        }
        check.same("mode()", a.mode(), 0);
        check.same("stage()", a.stage(), 0);
        check.same("no sign", a.sign(1, 0), 0);
        check.same("hands are on", a.hands(true, 0), 0);
        check.same("none waits at sensor 0", a.object(0, 1, 1, 1, 0), 1);
        check.same("none waits at sensor 1", a.object(1, 1, 1, 1, 0), 1);
    }

    private static void limitsAreNotTold(Check check) {
        AssistRows a = new AssistRows();
        a.step(5, 0);
        check.same("speed wished is 0", a.wish(0), -2.5);
        check.same("lane is 0", a.wish(1), 0.0);
        a.driver(0, 1);
        a.step(5, 0);
        check.same("pull is 2", a.wish(0), 2.0);
        a.driver(1, 1);
        a.step(5, 0);
        check.same("braking is 9", a.wish(0), -9.0);
        AssistRows b = Scene.withTrack(24, 0, 10, 10);
        b.limit(0, 60);
        Scene.see(b, 24, 0, 10, 10);
        check.same("gap is 1.5", b.wish(0), (24 - (3 + 1.5 * 10)) * 0.2);
    }

    private static void objectsAreApart(Check check) {
        AssistRows a = new AssistRows();
        Scene.withTrack(24, 0, 10, 10);
        Scene.stopping(3);
        check.same("the other's track", a.track(0, 0), 0);
        check.same("the other's hands", a.hands(true, 0), 0);
        check.same("the other's mode", a.step(0, 0), 0);
    }
}
