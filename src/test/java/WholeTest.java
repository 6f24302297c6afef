/** Promise 8: whole. */
final class WholeTest {
    public static void main(String[] args) {
        Check check = new Check("WholeTest");
        AssistRows a = new AssistRows();
        check.same("7 / 2", a.whole(7, 2), 3);
        check.same("-7 / 2", a.whole(-7, 2), -3);
        check.same("7 / -2", a.whole(7, -2), -3);
        check.same("-7 / -2", a.whole(-7, -2), 3);
        check.same("0 / 5", a.whole(0, 5), 0);
        check.same("6 / 3", a.whole(6, 3), 2);
        check.same("the least by -1", a.whole(Long.MIN_VALUE, -1), Long.MIN_VALUE);
        check.same("the least by 1", a.whole(Long.MIN_VALUE, 1), Long.MIN_VALUE);
        check.same("the least by the most", a.whole(Long.MIN_VALUE, Long.MAX_VALUE), -1);
        check.same("beyond an int", a.whole(Long.MAX_VALUE, 1L << 32), (1L << 31) - 1);
        for (long metres : new long[] {0, 1, -1, Long.MIN_VALUE, Long.MAX_VALUE}) {
            check.holds(metres + " / 0 throws", throwsAt(a, metres));
        }
        check.same("after a throw", a.whole(9, 3), 3);
        check.end();
    }

    private static boolean throwsAt(AssistRows a, long metres) {
        try {
            a.whole(metres, 0);
            return false;
        } catch (ArithmeticException e) {
            return e.getClass() == ArithmeticException.class;
        }
    }
}
