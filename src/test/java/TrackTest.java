/** Promise 11: track. */
final class TrackTest {
    public static void main(String[] args) {
        Check check = new Check("TrackTest");
        whetherItIsThere(check);
        sureAndCoast(check);
        cutToAWholeNumber(check);
        notThereIs0(check);
        noSuchNumber(check);
        noSuchWhat(check);
        check.end();
    }

    private static void whetherItIsThere(Check check) {
        check.sentence("Of a TRACK: what = 0 whether it is THERE (1 or 0)");
        AssistRows a = new AssistRows();
        a.object(0, 50, 0, 0, 0);
        check.same("a MEASURE is no TRACK yet", a.track(0, 0), 0);
        a.step(0, 0);
        check.same("THERE", a.track(0, 0), 1);
        check.same("the next one is not", a.track(1, 0), 0);
    }

    private static void sureAndCoast(Check check) {
        check.sentence("1 SURE, 2 COAST");
        AssistRows a = Scene.withTrack(50, 0, 0, 0);
        check.same("SURE", a.track(0, 1), 3);
        check.same("COAST", a.track(0, 2), 0);
        a.step(0, 0);
        check.same("SURE", a.track(0, 1), 2);
        check.same("COAST", a.track(0, 2), 1);
    }

    private static AssistRows told(double x, double y, double speed) {
        AssistRows a = new AssistRows();
        Scene.see(a, x, y, speed, 0);
        return a;
    }

    private static void cutToAWholeNumber(Check check) {
        check.sentence("3, 4, 5 X, Y, V times 100, cut to a whole number");
        AssistRows a = told(12.34, 5.67, 8.9);
        check.same("X", a.track(0, 3), 1234);
        check.same("Y", a.track(0, 4), 567);
        check.same("V", a.track(0, 5), 890);
        check.same("X below a whole number", told(Math.nextDown(12.5), 0, 0).track(0, 3), 1249);
        check.same("X at it", told(12.5, 0, 0).track(0, 3), 1250);
        check.same("Y below a whole number", told(0, Math.nextDown(12.5), 0).track(0, 4), 1249);
        check.same("Y at it", told(0, 12.5, 0).track(0, 4), 1250);
        check.same("V below a whole number", told(0, 0, Math.nextDown(12.5)).track(0, 5), 1249);
        check.same("V at it", told(0, 0, 12.5).track(0, 5), 1250);
        check.same("Y below 0 is cut towards 0", told(0, -Math.nextDown(12.5), 0).track(0, 4), -1249);
        check.same("Y at it", told(0, -12.5, 0).track(0, 4), -1250);
        check.same("V below 0 is cut towards 0", told(0, 0, -Math.nextDown(2.5)).track(0, 5), -249);
        check.same("V at it", told(0, 0, -2.5).track(0, 5), -250);
        check.same("131.92 times 100 is just below 13192", told(131.92, 0, 0).track(0, 3), 13191);
        check.same("0.47 times 100 is 47, though 0.47 / 0.01 is just below it", told(0.47, 0, 0).track(0, 3), 47);
        check.same("Y alike", told(0, -0.47, 0).track(0, 4), -47);
        check.same("V alike", told(0, 0, 0.47).track(0, 5), 47);
        check.same("less than 0.01", told(0.00999, 0, 0).track(0, 3), 0);
        check.same("more than -0.01", told(0, -0.00999, 0).track(0, 4), 0);
    }

    private static void notThereIs0(Check check) {
        check.sentence("(0 for all of one that is not THERE)");
        AssistRows a = told(50, 5, 10);
        for (int n = 0; n < 3; n++) {
            a.step(10, 0);
        }
        int[] due = {1, 1, 3, 5000, 500, 1000};
        for (int what = 0; what < 6; what++) {
            check.same("THERE still, what = " + what, a.track(0, what), due[what]);
            check.same("never THERE, what = " + what, a.track(7, what), 0);
        }
        a.step(10, 0);
        for (int what = 0; what < 6; what++) {
            check.same("no more THERE, what = " + what, a.track(0, what), 0);
        }
    }

    private static void noSuchNumber(Check check) {
        check.sentence("-1 there is no such number");
        for (int i = 0; i <= 7; i++) {
            check.same(i + " is one", new AssistRows().track(i, 0), 0);
        }
        Refusal refusal = new Refusal(check);
        refusal.everywhere("8", a -> a.track(8, 0), -1);
        refusal.everywhere("8 before -2", a -> a.track(8, -1), -1);
        for (int i : Scene.FAR) {
            refusal.everywhere("" + i, a -> a.track(i, 5), -1);
            refusal.everywhere(i + " before -2", a -> a.track(i, 6), -1);
        }
    }

    private static void noSuchWhat(Check check) {
        check.sentence("-2 no such what.");
        check.same("0 is one", told(50, 5, 10).track(0, 0), 1);
        check.same("5 is one", told(50, 5, 10).track(0, 5), 1000);
        Refusal refusal = new Refusal(check);
        for (int number : new int[] {0, 7}) {
            refusal.everywhere("6 of " + number, a -> a.track(number, 6), -2);
            for (int what : Scene.FAR) {
                refusal.everywhere(what + " of " + number, a -> a.track(number, what), -2);
            }
        }
    }
}
