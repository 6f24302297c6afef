/** What an object may have behind it when it is asked something that it refuses. */
enum State {
    NEW(0) {
        @Override
        void tell(AssistRows a) {
        }
    },
    /** No measure more fits. */
    FULL(2) {
        @Override
        void tell(AssistRows a) {
            a.step(10, 2);
            for (int n = 0; n < 4; n++) {
                a.object(0, 20 + 10 * n, 0, 5, 2);
                a.object(1, 20 + 10 * n, 10, 15, 2);
            }
        }
    },
    /** All that can be told was told; a lead is near, the sensors have differed twice, Z is on its way. */
    DRIVING(5) {
        @Override
        void tell(AssistRows a) {
            tellLimits(a);
            a.lane(2, 0.0625, -0.001);
            a.driver(0, 0.125);
            a.driver(2, 0.03125);
            tellSigns(a);
            for (int n = 0; n < 3; n++) {
                a.object(0, 40, 3, 0, 5);
                a.object(0, 100, -10, 30, 5);
                a.object(1, 40, 3, n == 0 ? 0 : 6, 5);
                a.step(20, 5);
            }
            a.object(0, 39, 3, 1, 5);
            a.object(1, 41, 3, 1, 5);
            a.object(1, 150, 0, 1, 5);
        }
    },
    HANDS_OFF(5) {
        @Override
        void tell(AssistRows a) {
            a.hands(false, 3);
            a.step(10, 5);
        }
    },
    ASKED(5) {
        @Override
        void tell(AssistRows a) {
            a.hands(false, 3);
            a.step(10, 5);
            a.handOver(7);
        }
    },
    STOPPING(10) {
        @Override
        void tell(AssistRows a) {
            a.hands(false, 0);
            a.handOver(0);
            a.step(10, 10);
        }
    };

    /** The time of the last step. */
    final double now;

    State(double now) {
        this.now = now;
    }

    abstract void tell(AssistRows a);

    AssistRows made() {
        AssistRows a = new AssistRows();
        tell(a);
        return a;
    }

    private static void tellLimits(AssistRows a) {
        a.limit(0, 22);
        a.limit(1, 2);
        a.limit(2, 8);
        a.limit(3, 2.5);
    }

    private static void tellSigns(AssistRows a) {
        a.sign(7, 60);
        a.sign(7, 60);
        a.sign(3, 100);
        a.sign(5, 30);
    }
}
