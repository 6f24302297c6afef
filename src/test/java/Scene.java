/** Situations that several tests begin with; the time stays 0 in them. */
final class Scene {
    static final double[] NO_NUMBERS = {
        Double.NaN, Double.POSITIVE_INFINITY, Double.NEGATIVE_INFINITY
    };

    private Scene() {
    }

    /** One thing is told three times in steps that take no time: a track of SURE 3. */
    static AssistRows withTrack(double x, double y, double itsSpeed, double ownSpeed) {
        AssistRows a = new AssistRows();
        sureTrack(a, x, y, itsSpeed, ownSpeed);
        return a;
    }

    static void sureTrack(AssistRows a, double x, double y, double itsSpeed, double ownSpeed) {
        for (int i = 0; i < 3; i++) {
            see(a, x, y, itsSpeed, ownSpeed);
        }
    }

    static int see(AssistRows a, double x, double y, double itsSpeed, double ownSpeed) {
        a.object(0, x, y, itsSpeed, 0);
        return a.step(ownSpeed, 0);
    }

    /** The hands are off since 0, a hand-over was asked at 0 and the step at 10 began to stop. */
    static AssistRows stopping(double speed) {
        AssistRows a = new AssistRows();
        a.hands(false, 0);
        a.handOver(0);
        a.step(speed, 10);
        return a;
    }

    /** What is answered of a track and may be compared with what it was before a refusal. */
    static String picture(AssistRows a) {
        StringBuilder text = new StringBuilder();
        for (int i = 0; i < 8; i++) {
            for (int what = 0; what < 6; what++) {
                text.append(a.track(i, what)).append(' ');
            }
            text.append(a.time(i)).append(' ');
        }
        for (int what = 0; what < 4; what++) {
            text.append(a.wish(what)).append(' ');
        }
        return text.append(a.stage()).append(' ').append(a.mode()).toString();
    }
}
