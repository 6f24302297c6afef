/** Situations that several tests begin with; the time stays 0 in them, if nothing else is told. */
final class Scene {
    /** Numbers that no list of things has. */
    static final int[] FAR = {-1, Integer.MIN_VALUE, Integer.MAX_VALUE};

    private Scene() {
    }

    /** One thing is told three times in steps that take no time: a track of SURE 3. */
    static AssistRows withTrack(double x, double y, double itsSpeed, double ownSpeed) {
        AssistRows a = new AssistRows();
        for (int i = 0; i < 3; i++) {
            see(a, x, y, itsSpeed, ownSpeed);
        }
        return a;
    }

    static int see(AssistRows a, double x, double y, double itsSpeed, double ownSpeed) {
        a.object(0, x, y, itsSpeed, 0);
        return a.step(ownSpeed, 0);
    }

    /** Tracks that were made in one step at speed 0, in this order, all in the middle and standing. */
    static AssistRows tracksAt(double... xs) {
        AssistRows a = new AssistRows();
        for (int n = 0; n < xs.length; n++) {
            a.object(n < 4 ? 0 : 1, xs[n], 0, 0, 0);
        }
        a.step(0, 0);
        return a;
    }

    static int tracksOf(AssistRows a) {
        int there = 0;
        for (int i = 0; i < 8; i++) {
            there += a.track(i, 0);
        }
        return there;
    }

    /** The hands are off since 0, a hand-over was asked at 0 and the step at 10 began to stop. */
    static AssistRows stopping(double speed) {
        AssistRows a = new AssistRows();
        a.hands(false, 0);
        a.handOver(0);
        a.step(speed, 10);
        return a;
    }

    /** Both sensors tell of one thing at a time; what they differ by lies in the speeds. */
    static int seeTwice(AssistRows a, double x, double y, double v0, double v1, double ownSpeed, double t) {
        a.object(0, x, y, v0, t);
        a.object(1, x, y, v1, t);
        return a.step(ownSpeed, t);
    }

    /** All that is answered without a change. */
    static String picture(AssistRows a) {
        StringBuilder text = new StringBuilder();
        for (int i = 0; i < 8; i++) {
            for (int what = 0; what < 6; what++) {
                text.append(a.track(i, what)).append(' ');
            }
            text.append(a.time(i)).append(' ');
        }
        for (int what = 0; what < 4; what++) {
            text.append(a.wish(what)).append(' ');
        }
        return text.append(a.stage()).append(' ').append(a.mode()).toString();
    }
}
