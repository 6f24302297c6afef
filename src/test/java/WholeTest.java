/** Promise 8: whole. */
final class WholeTest {
    public static void main(String[] args) {
        Check check = new Check("WholeTest");
        towards0(check);
        theLeastByMinus1(check);
        aSpeedOf0(check);
        check.end();
    }

    private static void towards0(Check check) {
        check.sentence("metres / speed, towards 0");
        AssistRows a = new AssistRows();
        check.same("6 / 2", a.whole(6, 2), 3);
        check.same("7 / 2", a.whole(7, 2), 3);
        check.same("8 / 2", a.whole(8, 2), 4);
        check.same("-7 / 2", a.whole(-7, 2), -3);
        check.same("7 / -2", a.whole(7, -2), -3);
        check.same("-7 / -2", a.whole(-7, -2), 3);
        check.same("-1 / 2", a.whole(-1, 2), 0);
        check.same("0 / 5", a.whole(0, 5), 0);
        check.same("beyond an int", a.whole(Long.MAX_VALUE, 1L << 32), (1L << 31) - 1);
        check.same("beyond a double", a.whole(Long.MAX_VALUE, 1), Long.MAX_VALUE);
        check.same("the most by -1", a.whole(Long.MAX_VALUE, -1), -Long.MAX_VALUE);
        check.same("by the most", a.whole(Long.MIN_VALUE, Long.MAX_VALUE), -1);
        check.same("by the least", a.whole(Long.MAX_VALUE, Long.MIN_VALUE), 0);
    }

    private static void theLeastByMinus1(Check check) {
        check.sentence("(the least number by -1: itself)");
        AssistRows a = new AssistRows();
        check.same("the least", a.whole(Long.MIN_VALUE, -1), Long.MIN_VALUE);
        check.same("one more than it", a.whole(Long.MIN_VALUE + 1, -1), Long.MAX_VALUE);
        check.same("by -2", a.whole(Long.MIN_VALUE, -2), 1L << 62);
        check.same("by 1", a.whole(Long.MIN_VALUE, 1), Long.MIN_VALUE);
        check.same("by itself", a.whole(Long.MIN_VALUE, Long.MIN_VALUE), 1);
    }

    private static void aSpeedOf0(Check check) {
        check.sentence("ArithmeticException for a speed of 0.");
        AssistRows a = new AssistRows();
        Refusal refusal = new Refusal(check);
        for (long metres : new long[] {0, 1, -1, Long.MIN_VALUE, Long.MAX_VALUE}) {
            check.same(metres + " / 0 throws", thrown(a, metres, 0), 1);
            check.same(metres + " / 1 does not", thrown(a, metres, 1), 0);
            check.same(metres + " / -1 does not", thrown(a, metres, -1), 0);
            refusal.everywhere(metres + " / 0", b -> thrown(b, metres, 0), 1);
        }
        check.same("after a throw", a.whole(9, 3), 3);
    }

    private static int thrown(AssistRows a, long metres, long speed) {
        try {
            a.whole(metres, speed);
            return 0;
        } catch (ArithmeticException e) {
            boolean byTheMachine = "/ by zero".equals(e.getMessage());
            return e.getClass() == ArithmeticException.class && !byTheMachine ? 1 : 2;
        }
    }
}
