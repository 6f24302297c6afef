/** Point 4 of a step: the lead, and the seconds that are left to it. */
final class LeadTest {
    public static void main(String[] args) {
        Check check = new Check("LeadTest");
        sure3OrMore(check);
        inTheLane(check);
        leastX(check);
        leastNumber(check);
        leftIfSIsAboveV(check);
        leftWithoutOne(check);
        check.end();
    }

    private static void sure3OrMore(Check check) {
        check.sentence("THE LEAD: of TRACKS with SURE 3 or more");
        AssistRows a = new AssistRows();
        for (int sure = 1; sure <= 5; sure++) {
            Scene.see(a, 60, 0, 10, 20);
            check.same("SURE " + sure, a.track(0, 1), sure);
            check.same("SURE " + sure, a.wish(3), sure >= 3 ? 60.0 : -1.0);
            check.same("SURE " + sure, a.mode(), sure >= 3 ? 1 : 0);
        }
        a.step(10, 0);
        a.step(10, 0);
        check.same("it coasts with SURE 3", a.wish(3), 60.0);
        a.step(10, 0);
        check.same("it coasts with SURE 2", a.wish(3), -1.0);
        check.same("though it is THERE", a.track(0, 0), 1);
        for (int i = 0; i < 8; i++) {
            check.same("each TRACK may be it, as " + i, leadAmongEight(i), 20.0 + 20 * i);
        }
    }

    /** Of eight tracks this one alone is in the lane. */
    private static double leadAmongEight(int number) {
        AssistRows a = new AssistRows();
        for (int n = 0; n < 3; n++) {
            for (int i = 0; i < 8; i++) {
                a.object(i < 4 ? 0 : 1, 20 + 20 * i, i == number ? 0 : 10, 10, 0);
            }
            a.step(20, 0);
        }
        return a.wish(3);
    }

    private static void inTheLane(Check check) {
        check.sentence("|Y - middle of the LANE at X| at most 1.75");
        check.same("1.75 to the left", Scene.withTrack(60, 1.75, 0, 0).wish(3), 60.0);
        check.same("more", Scene.withTrack(60, Math.nextUp(1.75), 0, 0).wish(3), -1.0);
        check.same("1.75 to the right", Scene.withTrack(60, -1.75, 0, 0).wish(3), 60.0);
        check.same("more", Scene.withTrack(60, Math.nextDown(-1.75), 0, 0).wish(3), -1.0);
        AssistRows a = Scene.withTrack(60, 5, 0, 0);
        a.lane(4, 0, 0);
        check.same("none before the STEP", a.wish(3), -1.0);
        Scene.see(a, 60, 5, 0, 0);
        check.same("the LANE as it is in the STEP", a.wish(3), 60.0);
    }

    /** Two things are told until both are sure; which of them is the lead, by its speed of 0 or 10 at a speed of 20. */
    private static int leadOf(double x0, double x1, double y1) {
        AssistRows a = new AssistRows();
        for (int n = 0; n < 3; n++) {
            a.object(0, x0, 0, 0, 0);
            a.object(0, x1, y1, 10, 0);
            a.step(20, 0);
        }
        double x = a.wish(3);
        return a.wish(2) == x / 20 ? 0 : a.wish(2) == x / 10 ? 1 : -1;
    }

    private static void leastX(Check check) {
        check.sentence("that with the least X");
        check.same("TRACK 1 is nearer", leadOf(80, 60, 0), 1);
        check.same("TRACK 1 is nearer by the least there is", leadOf(60, Math.nextDown(60.0), -1.5), 1);
        check.same("TRACK 0 is nearer", leadOf(60, 80, 0), 0);
        check.same("TRACK 1 is nearer, but not in the LANE", leadOf(80, 60, 5), 0);
        AssistRows a = Scene.withTrack(80, 0, 0, 20);
        Scene.see(a, 80, 0, 0, 20);
        a.object(0, 80, 0, 0, 0);
        Scene.see(a, 40, 0, 0, 20);
        check.same("a nearer one is not sure", a.wish(3), 80.0);
    }

    private static void leastNumber(Check check) {
        check.sentence("of several the least number");
        check.same("of the same X", leadOf(60, 60, 1.5), 0);
        check.same("farther by the least there is", leadOf(60, Math.nextUp(60.0), 1.5), 0);
        AssistRows a = new AssistRows();
        for (int n = 0; n < 3; n++) {
            a.object(0, 90, 0, 0, 0);
            a.object(0, 60, -1.5, 10, 0);
            a.object(0, 60, 1.5, 0, 0);
            a.step(20, 0);
        }
        check.same("1 before 2, after 0", a.wish(2), 6.0);
    }

    private static void leftIfSIsAboveV(Check check) {
        check.sentence("LEFT is X / (S - V) of the LEAD, if S is above V; otherwise");
        check.same("60 / 10", Scene.withTrack(60, 0, 10, 20).wish(2), 6.0);
        check.same("as fast", Scene.withTrack(60, 0, 20, 20).wish(2), -1.0);
        check.same("still the LEAD", Scene.withTrack(60, 0, 20, 20).wish(3), 60.0);
        check.same("just above", Scene.withTrack(60, 0, 20, Math.nextUp(20.0)).wish(2), 60 / (Math.nextUp(20.0) - 20));
        check.same("just below", Scene.withTrack(60, 0, 20, Math.nextDown(20.0)).wish(2), -1.0);
        check.same("standing before one that comes", Scene.withTrack(60, 0, -10, 0).wish(2), 6.0);
        check.same("both standing", Scene.withTrack(60, 0, 0, 0).wish(2), -1.0);
        check.same("at X 0", Scene.withTrack(0, 0, 0, 20).wish(2), 0.0);
        check.same("as the division stands", Scene.withTrack(200, 0, 0, Double.MIN_VALUE).wish(2), Double.POSITIVE_INFINITY);
    }

    private static void leftWithoutOne(Check check) {
        check.sentence("otherwise, and without one, -1.");
        AssistRows a = new AssistRows();
        a.step(20, 0);
        check.same("no TRACK", a.wish(2), -1.0);
        check.same("no TRACK", a.wish(3), -1.0);
        AssistRows b = Scene.withTrack(60, 0, 10, 20);
        check.same("a LEAD", b.wish(2), 6.0);
        b.step(20, 0);
        check.same("a TRACK that is none", b.wish(2), -1.0);
        check.same("a TRACK that is none", b.wish(3), -1.0);
    }
}
