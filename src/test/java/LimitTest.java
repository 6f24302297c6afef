/** Promise 10: limit. */
final class LimitTest {
    public static void main(String[] args) {
        Check check = new Check("LimitTest");
        speedWished(check);
        gap(check);
        braking(check);
        mostPull(check);
        eachIsItsOwn(check);
        noSuchWhat(check);
        check.end();
    }

    private static double pullAt(double speed, int what, double v) {
        AssistRows a = new AssistRows();
        a.limit(what, v);
        a.step(speed, 0);
        return a.wish(0);
    }

    private static void speedWished(Check check) {
        check.sentence("A LIMIT: 0 (0 .. 60)");
        new Range(check).answersOne("the SPEED wished", 0, 60, (a, v) -> a.limit(0, v));
        check.same("0", pullAt(3, 0, 0), -1.5);
        check.same("60", pullAt(59, 0, 60), 0.5);
    }

    /** With a lead as fast that is 3 ahead of the place where a gap of 1 ends. */
    private static double pullWithGap(double gap) {
        AssistRows a = new AssistRows();
        a.limit(0, 60);
        a.limit(1, gap);
        for (int n = 0; n < 3; n++) {
            Scene.see(a, 10, 0, 4, 4);
        }
        return a.wish(0);
    }

    private static void gap(Check check) {
        check.sentence("1 (0.5 .. 3)");
        new Range(check).answersOne("the GAP", 0.5, 3, (a, v) -> a.limit(1, v));
        check.same("0.5", pullWithGap(0.5), (10 - (3 + 0.5 * 4)) * 0.2);
        check.same("3", pullWithGap(3), (10 - (3 + 3.0 * 4)) * 0.2);
    }

    private static double pullWithBraking(double braking) {
        AssistRows a = new AssistRows();
        a.driver(1, 1);
        a.limit(2, braking);
        a.step(10, 0);
        return a.wish(0);
    }

    private static void braking(Check check) {
        check.sentence("2 (1 .. 9)");
        new Range(check).answersOne("BRAKING", 1, 9, (a, v) -> a.limit(2, v));
        check.same("1", pullWithBraking(1), -1.0);
        check.same("4", pullWithBraking(4), -4.0);
        check.same("9", pullWithBraking(9), -9.0);
    }

    private static double pullWithPull(double most) {
        AssistRows a = new AssistRows();
        a.driver(0, 1);
        a.limit(3, most);
        a.step(10, 0);
        return a.wish(0);
    }

    private static void mostPull(Check check) {
        check.sentence("3 (0 .. 3)");
        new Range(check).answersOne("PULL", 0, 3, (a, v) -> a.limit(3, v));
        check.same("0", pullWithPull(0), 0.0);
        check.same("1", pullWithPull(1), 1.0);
        check.same("3", pullWithPull(3), 3.0);
    }

    /** After one limit was told as 2.5, the others are what they were at first. */
    private static void eachIsItsOwn(Check check) {
        check.sentence("A LIMIT: 0 (0 .. 60), 1 (0.5 .. 3), 2 (1 .. 9), 3 (0 .. 3): 1.");
        for (int told = 0; told < 4; told++) {
            AssistRows a = new AssistRows();
            a.limit(told, 2.5);
            a.step(2, 0);
            check.same("the SPEED wished after " + told, a.wish(0), told == 0 ? 0.25 : -1.0);
            a.limit(0, 60);
            for (int n = 0; n < 3; n++) {
                Scene.see(a, 15, 0, 8, 8);
            }
            check.same("the GAP after " + told, a.wish(0), told == 1 ? (15 - (3 + 2.5 * 8)) * 0.2 : 0.0);
            a.driver(0, 1);
            a.step(8, 0);
            check.same("PULL after " + told, a.wish(0), told == 3 ? 2.5 : 2.0);
            a.driver(1, 1);
            a.step(8, 0);
            check.same("BRAKING after " + told, a.wish(0), told == 2 ? -2.5 : -9.0);
        }
    }

    private static void noSuchWhat(Check check) {
        check.sentence("-1 there is no such what, -2.");
        for (int what = 0; what <= 3; what++) {
            check.same(what + " is one", new AssistRows().limit(what, 2), 1);
        }
        Refusal refusal = new Refusal(check);
        refusal.everywhere("4", a -> a.limit(4, 2), -1);
        refusal.everywhere("4 before -2", a -> a.limit(4, -1), -1);
        for (int what : Scene.FAR) {
            refusal.everywhere("" + what, a -> a.limit(what, 2), -1);
            refusal.everywhere(what + " before -2", a -> a.limit(what, 61), -1);
        }
    }
}
