/** Promise 6: stage, that is point 5 of a step. */
final class StageTest {
    public static void main(String[] args) {
        Check check = new Check("StageTest");
        due(check);
        oneByOne(check);
        steered(check);
        check.end();
    }

    /** The stage that is kept at a lead which is left seconds away. */
    private static int keptStage(double left) {
        AssistRows a = new AssistRows();
        for (int n = 0; n < 7; n++) {
            Scene.see(a, left * 16, 0, 0, 16);
        }
        return a.stage();
    }

    private static void due(Check check) {
        check.same("new", new AssistRows().stage(), 0);
        check.same("none", keptStage(3), 0);
        check.same("2.6", keptStage(2.6), 0);
        check.same("below 2.6", keptStage(2.5999999), 1);
        check.same("1.6", keptStage(1.6), 1);
        check.same("below 1.6", keptStage(1.5999999), 2);
        check.same("0.8", keptStage(0.8), 2);
        check.same("below 0.8", keptStage(0.7999999), 3);
        check.same("0", keptStage(0), 3);
        check.same("no lead", stageWithout(), 0);
    }

    private static int stageWithout() {
        AssistRows a = Scene.withTrack(1, 5, 0, 20);
        a.step(20, 0);
        return a.stage();
    }

    private static void oneByOne(Check check) {
        AssistRows a = Scene.withTrack(10, 0, 0, 20);
        check.same("first", a.stage(), 1);
        for (int stage = 2; stage <= 4; stage++) {
            Scene.see(a, 10, 0, 0, 20);
            check.same("rises", a.stage(), stage < 3 ? stage : 3);
        }
        Scene.see(a, 10, 0, 0, 5);
        check.same("falls at once to what is due", a.stage(), 1);
        Scene.see(a, 10, 0, 0, 20);
        check.same("rises again", a.stage(), 2);
        Scene.see(a, 10, 0, 0, 0);
        check.same("standing", a.stage(), 0);
    }

    private static void steered(Check check) {
        AssistRows a = Scene.withTrack(10, 0, 0, 20);
        a.driver(2, 0.3);
        Scene.see(a, 10, 0, 0, 20);
        check.same("0.3 does not hold it back", a.stage(), 2);
        a.driver(2, -0.3001);
        Scene.see(a, 10, 0, 0, 20);
        check.same("steering to the right does", a.stage(), 0);
        a.driver(2, 0.3001);
        Scene.see(a, 10, 0, 0, 20);
        check.same("steering to the left does", a.stage(), 0);
    }
}
