/** Promise 12: sign. */
final class SignTest {
    public static void main(String[] args) {
        Check check = new Check("SignTest");
        twoMoreFrom60(check);
        oneMoreFrom30(check);
        othersOneLess(check);
        zeroAtLeast(check);
        fourOrMore(check);
        allCountsAre0(check);
        theSignTakenLast(check);
        noSuchKind(check);
        confidence0To100(check);
        check.end();
    }

    /** How many calls it takes until the kind is taken, 0 for more than ten. */
    private static int callsUntilTaken(int kind, int confidence) {
        AssistRows a = new AssistRows();
        for (int calls = 1; calls <= 10; calls++) {
            if (a.sign(kind, confidence) == kind) {
                return calls;
            }
        }
        return 0;
    }

    private static void twoMoreFrom60(Check check) {
        check.sentence("its COUNT is 2 more if confidence is 60 or more");
        for (int kind = 1; kind <= 13; kind++) {
            check.same("100", callsUntilTaken(kind, 100), 2);
            check.same("60", callsUntilTaken(kind, 60), 2);
            check.same("59", callsUntilTaken(kind, 59), 4);
        }
    }

    private static void oneMoreFrom30(Check check) {
        check.sentence("1 more from 30 on");
        for (int kind = 1; kind <= 13; kind++) {
            check.same("59", callsUntilTaken(kind, 59), 4);
            check.same("30", callsUntilTaken(kind, 30), 4);
            check.same("29", callsUntilTaken(kind, 29), 0);
            check.same("0", callsUntilTaken(kind, 0), 0);
        }
    }

    private static void othersOneLess(Check check) {
        check.sentence("those of other kinds are one less");
        for (int kind = 1; kind <= 13; kind++) {
            int other = kind == 13 ? 1 : 13;
            AssistRows a = new AssistRows();
            a.sign(kind, 60);
            a.sign(other, 29);
            check.same("2, 1, 3", a.sign(kind, 60), 0);
            check.same("its own COUNT is not less", a.sign(kind, 0), 0);
            check.same("4", a.sign(kind, 30), kind);
            AssistRows b = new AssistRows();
            b.sign(kind, 60);
            check.same("the other's COUNT is more as well", b.sign(other, 60), 0);
            check.same("2 of the other and 2", b.sign(other, 60), other);
        }
        AssistRows c = new AssistRows();
        c.sign(1, 60);
        c.sign(2, 60);
        c.sign(3, 60);
        check.same("of 2, 0 is left to the first", c.sign(1, 60), 0);
        check.same("of 1 that is left to the third, 3 is made", c.sign(3, 60), 0);
        check.same("so 1 more is enough", c.sign(3, 30), 3);
    }

    private static void zeroAtLeast(Check check) {
        check.sentence("(0 at least)");
        for (int kind = 1; kind <= 13; kind++) {
            int other = kind == 1 ? 2 : 1;
            AssistRows a = new AssistRows();
            a.sign(kind, 30);
            a.sign(other, 0);
            a.sign(kind, 60);
            check.same("1, 0, 2, 3", a.sign(kind, 30), 0);
            check.same("4", a.sign(kind, 30), kind);
            AssistRows b = new AssistRows();
            b.sign(kind, 30);
            b.sign(other, 0);
            b.sign(other, 0);
            b.sign(kind, 60);
            check.same("1, 0, 0, 2, 4", b.sign(kind, 60), kind);
        }
    }

    private static void fourOrMore(Check check) {
        check.sentence("If its COUNT is 4 or more, it is taken");
        AssistRows a = new AssistRows();
        check.same("2", a.sign(4, 60), 0);
        check.same("3", a.sign(4, 30), 0);
        check.same("3 still", a.sign(4, 29), 0);
        check.same("4", a.sign(4, 30), 4);
        AssistRows b = new AssistRows();
        b.sign(4, 60);
        b.sign(4, 30);
        check.same("5", b.sign(4, 60), 4);
    }

    private static void allCountsAre0(Check check) {
        check.sentence("and all COUNTS are 0.");
        for (int kind = 1; kind <= 13; kind++) {
            int other = kind == 13 ? 1 : 13;
            AssistRows a = new AssistRows();
            a.sign(kind, 60);
            a.sign(kind, 60);
            a.sign(other, 60);
            a.sign(other, 60);
            check.same("its own: 2, the other stays taken", a.sign(kind, 60), other);
            check.same("4", a.sign(kind, 60), kind);
            AssistRows b = new AssistRows();
            b.sign(kind, 60);
            b.sign(kind, 30);
            b.sign(other, 60);
            check.same("taken while the other's was 1", b.sign(other, 60), other);
            b.sign(kind, 60);
            check.same("the other's is 0, then 3", b.sign(kind, 30), other);
            check.same("4", b.sign(kind, 30), kind);
            itsOwnIs0(check, kind, other);
        }
    }

    /** What is left of its own COUNT would let it be taken again, which would bring the other's to 0. */
    private static void itsOwnIs0(Check check, int kind, int other) {
        AssistRows a = new AssistRows();
        a.sign(kind, 60);
        check.same("taken with 4", a.sign(kind, 60), kind);
        a.sign(other, 60);
        a.sign(kind, 30);
        check.same("the other's is 2, 1, 3", a.sign(other, 60), kind);
        check.same("4, for it was not brought to 0", a.sign(other, 30), other);
        AssistRows b = new AssistRows();
        b.sign(kind, 60);
        b.sign(kind, 30);
        check.same("taken with 5", b.sign(kind, 60), kind);
        b.sign(kind, 60);
        b.sign(other, 60);
        check.same("its own is 2, 1, 3", b.sign(kind, 60), kind);
        check.same("the other's is 2, 1, 3", b.sign(other, 60), kind);
        check.same("4, for it was not brought to 0", b.sign(other, 30), other);
    }

    private static void theSignTakenLast(Check check) {
        check.sentence("The SIGN (0 at first: none) is that which was taken last.");
        AssistRows a = new AssistRows();
        check.same("none", a.sign(3, 100), 0);
        check.same("3", a.sign(3, 100), 3);
        check.same("3 still", a.sign(5, 100), 3);
        check.same("5", a.sign(5, 100), 5);
        check.same("5 still", a.sign(5, 0), 5);
        a.step(10, 1);
        check.same("a STEP leaves it", a.sign(5, 0), 5);
    }

    private static void noSuchKind(Check check) {
        check.sentence("-1 there is no such kind");
        check.same("1 is one", callsUntilTaken(1, 60), 2);
        check.same("13 is one", callsUntilTaken(13, 60), 2);
        Refusal refusal = new Refusal(check);
        for (int kind : new int[] {0, 14}) {
            refusal.everywhere("" + kind, a -> a.sign(kind, 60), -1);
            refusal.everywhere(kind + " before -2", a -> a.sign(kind, 101), -1);
        }
        for (int kind : Scene.FAR) {
            refusal.everywhere("" + kind, a -> a.sign(kind, 60), -1);
            refusal.everywhere(kind + " before -2", a -> a.sign(kind, -1), -1);
        }
    }

    private static void confidence0To100(Check check) {
        check.sentence("-2 confidence is not 0 .. 100.");
        check.same("0", new AssistRows().sign(1, 0), 0);
        check.same("100", callsUntilTaken(1, 100), 2);
        Refusal refusal = new Refusal(check);
        for (int number : new int[] {1, 5, 13}) {
            refusal.everywhere("101 of " + number, a -> a.sign(number, 101), -2);
            for (int confidence : Scene.FAR) {
                refusal.everywhere(confidence + " of " + number, a -> a.sign(number, confidence), -2);
            }
        }
    }
}
