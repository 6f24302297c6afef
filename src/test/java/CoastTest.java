/** Point 3 of a step: tracks that coast and tracks that leave. */
final class CoastTest {
    public static void main(String[] args) {
        Check check = new Check("CoastTest");
        coastIsOneMore(check);
        sureIsOneLess(check);
        with4NoMoreThere(check);
        othersAre0(check);
        belowZero(check);
        above250(check);
        check.end();
    }

    private static void coastIsOneMore(Check check) {
        check.sentence("TRACKS that no MEASURE was joined to, or made, in this STEP: COAST is one more");
        AssistRows a = Scene.tracksAt(50, 90);
        check.same("made in this STEP", a.track(0, 2), 0);
        for (int n = 1; n <= 3; n++) {
            Scene.see(a, 90, 0, 0, 0);
            check.same("neither", a.track(0, 2), n);
            check.same("joined in this STEP", a.track(1, 2), 0);
        }
        AssistRows b = new AssistRows();
        b.object(1, 50, 0, 0, 0);
        b.step(0, 0);
        check.same("made by SENSOR 1", b.track(0, 2), 0);
        b.object(1, 50, 0, 0, 0);
        b.step(0, 0);
        check.same("joined by SENSOR 1", b.track(0, 2), 0);
    }

    private static void sureIsOneLess(Check check) {
        check.sentence("SURE one less (1 at least)");
        AssistRows a = Scene.withTrack(50, 0, 0, 0);
        for (int sure : new int[] {2, 1, 1}) {
            a.step(0, 0);
            check.same("SURE", a.track(0, 1), sure);
        }
        AssistRows b = Scene.withTrack(50, 0, 0, 0);
        for (int n = 0; n < 3; n++) {
            Scene.see(b, 50, 0, 0, 0);
        }
        b.step(0, 0);
        check.same("5 becomes 4", b.track(0, 1), 4);
    }

    private static void with4NoMoreThere(Check check) {
        check.sentence("with 4 it is no more THERE");
        AssistRows a = Scene.withTrack(50, 0, 0, 0);
        for (int n = 1; n <= 3; n++) {
            a.step(0, 0);
        }
        check.same("THERE with 3", a.track(0, 0), 1);
        check.same("COAST 3", a.track(0, 2), 3);
        a.step(0, 0);
        check.same("not with 4", a.track(0, 0), 0);
        for (int what = 1; what < 6; what++) {
            check.same("nor anything of it", a.track(0, what), 0);
        }
        Scene.see(a, 51, 0, 0, 0);
        check.same("what comes later is another one", a.track(0, 3), 5100);
        check.same("and no more sure than a new one", a.track(0, 1), 1);
        check.same("nor does it coast", a.track(0, 2), 0);
    }

    private static void othersAre0(Check check) {
        check.sentence("Others: COAST is 0.");
        for (int sensor = 0; sensor < 2; sensor++) {
            AssistRows a = Scene.withTrack(50, 0, 0, 0);
            for (int n = 0; n < 3; n++) {
                a.step(0, 0);
            }
            a.object(sensor, 50, 0, 0, 0);
            a.step(0, 0);
            check.same("it was 3", a.track(0, 2), 0);
            check.same("SURE rises again", a.track(0, 1), 2);
            for (int n = 1; n <= 3; n++) {
                a.step(0, 0);
                check.same("it begins anew", a.track(0, 2), n);
            }
            a.step(0, 0);
            check.same("and is gone with 4 only", a.track(0, 0), 0);
        }
    }

    private static void belowZero(Check check) {
        check.sentence("Then TRACKS with an X below 0");
        AssistRows a = Scene.tracksAt(0);
        a.step(0, 1);
        check.same("0", a.track(0, 0), 1);
        a.step(Double.MIN_VALUE, 2);
        check.same("the first one below", a.track(0, 0), 0);
        check.same("it comes back no more", a.step(0, 2), 0);
        check.same("it comes back no more", a.track(0, 0), 0);
        AssistRows b = Scene.tracksAt(10);
        b.step(10, 1);
        check.same("10 less 10", b.track(0, 0), 1);
        check.same("at 0", b.time(0), 0.0);
        AssistRows c = Scene.tracksAt(10);
        c.step(10, Math.nextUp(1.0));
        check.same("10 less more than 10", c.track(0, 0), 0);
        check.same("0 with a sign is not below 0", negativeZero().track(0, 0), 1);
        joinedBelowZero(check);
    }

    private static AssistRows negativeZero() {
        AssistRows a = new AssistRows();
        Scene.see(a, -0.0, 0, 0, 0);
        return a;
    }

    private static void joinedBelowZero(Check check) {
        AssistRows a = Scene.tracksAt(1);
        a.object(0, 1, 0, 0, 1);
        a.step(2, 1);
        check.same("-1 and 1 joined are 0", a.track(0, 0), 1);
        check.same("it is the same one", a.track(0, 1), 2);
        AssistRows b = Scene.tracksAt(1);
        b.object(0, 1 - 0x1p-52, 0, 0, 1);
        b.step(2, 1);
        check.same("-1 and less than 1 are below 0", b.track(0, 0), 0);
        check.same("nothing is made of them", Scene.tracksOf(b), 0);
    }

    private static void above250(Check check) {
        check.sentence("or above 250 are no more THERE");
        check.same("250", farTrack(190).track(0, 3), 25000);
        check.same("it is THERE", farTrack(190).track(0, 0), 1);
        check.same("more", farTrack(Math.nextUp(190.0)).track(0, 0), 0);
        AssistRows a = new AssistRows();
        Scene.see(a, 200, 0, 70, 10);
        a.object(0, 200, 0, 70, 0.875);
        a.step(10, 0.875);
        check.same("252.5 is too far from 200 to be joined, so it is gone", a.track(0, 0), 0);
        check.same("and another one made", a.track(1, 3), 20000);
    }

    /** A track that is 60 ahead of where it was made. */
    private static AssistRows farTrack(double x) {
        AssistRows a = new AssistRows();
        Scene.see(a, x, 0, 70, 10);
        a.step(10, 1);
        return a;
    }
}
