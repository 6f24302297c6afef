/** Counts the answers of one test that are not as due. */
final class Check {
    private final String test;
    private int wrong;
    private int asked;

    Check(String test) {
        this.test = test;
    }

    void same(String call, long got, long due) {
        asked++;
        if (got != due) {
            tell(call, String.valueOf(got), String.valueOf(due));
        }
    }

    /** Compares bits, for a 0 that is answered has no sign. */
    void same(String call, double got, double due) {
        asked++;
        if (Double.doubleToLongBits(got) != Double.doubleToLongBits(due)) {
            tell(call, String.valueOf(got), String.valueOf(due));
        }
    }

    void holds(String what, boolean held) {
        asked++;
        if (!held) {
            tell(what, "no", "yes");
        }
    }

    void end() {
        System.out.println(test + ": " + (asked - wrong) + " of " + asked + " as due");
        if (wrong != 0) {
            System.exit(1);
        }
    }

    private void tell(String call, String got, String due) {
        wrong++;
        if (wrong <= 20) {
            System.out.println(test + ": " + call + " answered " + got + ", due is " + due);
        }
    }
}
