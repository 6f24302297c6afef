/** Promise 5: wish. What the four numbers come to is told by LeadTest, PullTest and SteeringTest. */
final class WishTest {
    public static void main(String[] args) {
        Check check = new Check("WishTest");
        beforeTheFirstOne(check);
        theFour(check);
        anyOtherWhat(check);
        ofTheLastStep(check);
        check.end();
    }

    private static void beforeTheFirstOne(Check check) {
        check.sentence("0, 0, -1, -1 before the first one.");
        AssistRows a = new AssistRows();
        a.limit(0, 60);
        a.lane(-0.5, 0, 0);
        a.object(0, 60, 0, 10, 0);
        a.step(71, 0);
        double[] due = {0, 0, -1, -1};
        for (int what = 0; what < 4; what++) {
            check.same("wish(" + what + ")", a.wish(what), due[what]);
        }
        a.step(10, 0);
        check.same("A of the first one", a.wish(0), 2.0);
        check.same("Z of the first one", a.wish(1), 0.05);
    }

    private static AssistRows all() {
        AssistRows a = new AssistRows();
        a.limit(0, 22);
        a.lane(-0.25, 0, 0);
        for (int n = 0; n < 3; n++) {
            Scene.see(a, 60, 0, 19, 20);
        }
        return a;
    }

    private static void theFour(Check check) {
        check.sentence("what = 0 A, 1 Z, 2 LEFT, 3 the LEAD's X (-1 without one)");
        AssistRows a = all();
        check.same("A", a.wish(0), 1.0);
        check.same("Z", a.wish(1), 0.025);
        check.same("LEFT", a.wish(2), 60.0);
        check.same("X", a.wish(3), 60.0);
        Scene.see(a, 60, 0, 19, 24);
        check.same("LEFT is not X", a.wish(2), 12.0);
        check.same("nor X LEFT", a.wish(3), 60.0);
        a.step(20, 0);
        a.step(20, 0);
        check.same("LEFT without one", a.wish(2), -1.0);
        check.same("X without one", a.wish(3), -1.0);
    }

    private static void anyOtherWhat(Check check) {
        check.sentence("0 for any other what.");
        check.same("3 is one", all().wish(3), 60.0);
        check.same("4 is another", all().wish(4), 0.0);
        check.same("0 is one", all().wish(0), 1.0);
        Refusal refusal = new Refusal(check);
        refusal.everywhere("wish(4)", a -> a.wish(4), 0);
        for (int what : Scene.FAR) {
            refusal.everywhere("wish(" + what + ")", a -> a.wish(what), 0);
        }
    }

    private static void ofTheLastStep(Check check) {
        check.sentence("Of the last STEP");
        AssistRows a = all();
        String before = Scene.picture(a);
        a.limit(0, 60);
        a.lane(5, 1, 0);
        a.driver(1, 1);
        a.hands(false, 0);
        a.object(0, 59, 0, 10, 0);
        check.holds("what is told changes nothing before the next one", before.equals(Scene.picture(a)));
        a.step(71, 0);
        check.holds("a refused one is none", before.equals(Scene.picture(a)));
        a.step(20, 0);
        check.holds("the next one changes it", !before.equals(Scene.picture(a)));
    }
}
