/** Promise 7: time. */
final class TimeTest {
    public static void main(String[] args) {
        Check check = new Check("TimeTest");
        AssistRows a = new AssistRows();
        a.object(0, 60, 12, 10, 0);
        a.object(0, 100, -12, 30, 0);
        a.object(0, 0, 5, -10, 0);
        a.object(0, -0.0, 10, 0, 0);
        check.same("before the step", a.time(0), -1.0);
        a.step(20, 0);
        check.same("sure or not, in the lane or not", a.time(0), 6.0);
        check.same("faster", a.time(1), -1.0);
        check.same("at 0", a.time(2), 0.0);
        check.same("at 0 with a sign", a.time(3), 0.0);
        check.same("not there", a.time(4), -1.0);
        for (int i : new int[] {-1, 8, Integer.MIN_VALUE, Integer.MAX_VALUE}) {
            check.same("time(" + i + ")", a.time(i), -1.0);
        }
        a.step(10, 0);
        check.same("as fast", a.time(0), -1.0);
        a.step(13, 1);
        check.same("the speed and X of the last step", a.time(0), 57.0 / (13 - 10));
        a.step(71, 1);
        check.same("a refused step changes nothing", a.time(0), 57.0 / (13 - 10));
        AssistRows b = new AssistRows();
        b.object(0, 200, 0, 0, 0);
        b.step(Double.MIN_VALUE, 0);
        check.same("as the division stands", b.time(0), Double.POSITIVE_INFINITY);
        check.end();
    }
}
