/** Promise 12: sign. */
final class SignTest {
    public static void main(String[] args) {
        Check check = new Check("SignTest");
        refusals(check);
        weights(check);
        othersFade(check);
        allCountsAreCleared(check);
        clearedOfEachKind(check);
        check.end();
    }

    private static void refusals(Check check) {
        AssistRows a = new AssistRows();
        for (int kind : new int[] {0, 14, -1, Integer.MIN_VALUE, Integer.MAX_VALUE}) {
            check.same("kind " + kind, a.sign(kind, 50), -1);
            check.same("-1 before -2", a.sign(kind, 101), -1);
        }
        for (int confidence : new int[] {-1, 101, Integer.MIN_VALUE, Integer.MAX_VALUE}) {
            check.same("confidence " + confidence, a.sign(1, confidence), -2);
        }
        a.sign(13, 60);
        a.sign(1, 101);
        a.sign(14, 60);
        check.same("refusals let no count fade", a.sign(13, 60), 13);
    }

    private static int callsUntilTaken(int kind, int confidence) {
        AssistRows a = new AssistRows();
        for (int calls = 1; calls <= 10; calls++) {
            if (a.sign(kind, confidence) == kind) {
                return calls;
            }
        }
        return 0;
    }

    private static void weights(Check check) {
        for (int kind = 1; kind <= 13; kind++) {
            check.same("100", callsUntilTaken(kind, 100), 2);
            check.same("60", callsUntilTaken(kind, 60), 2);
            check.same("59", callsUntilTaken(kind, 59), 4);
            check.same("30", callsUntilTaken(kind, 30), 4);
            check.same("29", callsUntilTaken(kind, 29), 0);
            check.same("0", callsUntilTaken(kind, 0), 0);
        }
        AssistRows a = new AssistRows();
        a.sign(4, 30);
        a.sign(4, 60);
        check.same("3 and 2 are enough", a.sign(4, 60), 4);
    }

    private static void othersFade(Check check) {
        AssistRows a = new AssistRows();
        a.sign(1, 60);
        a.sign(2, 0);
        check.same("1 and 2 is not enough", a.sign(1, 60), 0);
        check.same("3 and 1 is", a.sign(1, 30), 1);
        AssistRows c = new AssistRows();
        c.sign(1, 30);
        c.sign(2, 0);
        c.sign(1, 60);
        check.same("1 fades to 0, so 3 is all", c.sign(1, 30), 0);
        AssistRows b = new AssistRows();
        b.sign(1, 30);
        b.sign(2, 0);
        b.sign(2, 0);
        b.sign(1, 60);
        check.same("a count is 0 at least", b.sign(1, 60), 1);
    }

    private static void clearedOfEachKind(Check check) {
        for (int kind = 1; kind <= 13; kind++) {
            int other = kind == 1 ? 2 : 1;
            AssistRows a = new AssistRows();
            a.sign(kind, 60);
            a.sign(kind, 60);
            a.sign(other, 60);
            a.sign(other, 60);
            check.same("nothing is left of the count of " + kind, a.sign(kind, 60), other);
            AssistRows b = new AssistRows();
            b.sign(kind, 60);
            b.sign(kind, 30);
            b.sign(other, 60);
            check.same("the other is taken", b.sign(other, 60), other);
            b.sign(kind, 60);
            check.same("nothing is left of the 1 of " + kind, b.sign(kind, 30), other);
        }
    }

    private static void allCountsAreCleared(Check check) {
        AssistRows a = new AssistRows();
        a.sign(1, 60);
        a.sign(1, 30);
        a.sign(2, 60);
        check.same("taken", a.sign(2, 60), 2);
        check.same("the other's count is 0", a.sign(1, 60), 2);
        check.same("the sign stays until another is taken", a.sign(2, 60), 2);
        a.sign(3, 60);
        check.same("another is taken", a.sign(3, 60), 3);
        check.same("its own count is 0", a.sign(4, 60), 3);
        check.same("its own count is 0", a.sign(4, 60), 4);
    }
}
