/** One number of a call that must be in a range, the first and the last value that fit and those next to them. */
final class Range {
    interface Call {
        int with(AssistRows a, double v);
    }

    private static final double LAST_TIME = 100000;

    private final Check check;
    private final Refusal refusal;

    Range(Check check) {
        this.check = check;
        this.refusal = new Refusal(check);
    }

    /** What is told in a new object answers 1 when the number is in the range, -2 when it is not. */
    void answersOne(String name, double least, double most, Call call) {
        for (double v : new double[] {least, most}) {
            check.same(name + " " + v + " fits", call.with(new AssistRows(), v), 1);
        }
        refused(State.values(), name, least, most, call);
    }

    /** A time that fits is refused in none of the states for being outside its range. */
    void ofTime(String name, Call call) {
        for (State state : State.values()) {
            check.holds(state + ", " + name + " NOW fits", call.with(state.made(), state.now) != -2);
            check.holds(state + ", " + name + " 100000 fits", call.with(state.made(), LAST_TIME) != -2);
            refused(new State[] {state}, name, state.now, LAST_TIME, call);
        }
    }

    void refused(State[] states, String name, double least, double most, Call call) {
        double[] outside = {
            Math.nextDown(least), Math.nextUp(most), -Double.MAX_VALUE, Double.MAX_VALUE,
            Double.NEGATIVE_INFINITY, Double.POSITIVE_INFINITY, Double.NaN
        };
        for (State state : states) {
            for (double v : outside) {
                refusal.in(state, name + " " + v, a -> call.with(a, v), -2);
            }
        }
    }
}
