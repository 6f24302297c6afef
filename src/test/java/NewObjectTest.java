/** Promise 1: a new object, what holds at first, and how many calls it is used for. */
final class NewObjectTest {
    public static void main(String[] args) {
        Check check = new Check("NewObjectTest");
        noObjects(check);
        nothingIsWished(check);
        theLaneIs0(check);
        theDriverIs0(check);
        handsAreOn(check);
        theSpeedWishedIs0(check);
        theGapIsOneAndAHalf(check);
        theMostBrakingIs9(check);
        theMostPullIs2(check);
        noSignIsTaken(check);
        objectsAreApart(check);
        used512Times(check);
        check.end();
    }

    private static void noObjects(Check check) {
        check.sentence("No objects, no limits told.");
        AssistRows a = new AssistRows();
        for (int i = 0; i < 8; i++) {
            for (int what = 0; what < 6; what++) {
                check.same("track(" + i + ", " + what + ")", a.track(i, what), 0);
            }
            check.same("time(" + i + ")", a.time(i), -1.0);
        }
        check.same("none waits at SENSOR 0", a.object(0, 1, 1, 1, 0), 1);
        check.same("none waits at SENSOR 1", a.object(1, 1, 1, 1, 0), 1);
        AssistRows b = new AssistRows();
        check.same("no object is in the first STEP", b.step(10, 0), 0);
        check.same("none became a TRACK", Scene.tracksOf(b), 0);
    }

    private static void nothingIsWished(Check check) {
        check.sentence("0, 0, -1, -1 before the first one");
        AssistRows a = new AssistRows();
        check.same("A", a.wish(0), 0.0);
        check.same("Z", a.wish(1), 0.0);
        check.same("LEFT", a.wish(2), -1.0);
        check.same("the LEAD's X", a.wish(3), -1.0);
        check.same("STAGE", a.stage(), 0);
        check.same("MODE", a.mode(), 0);
        a.limit(0, 1);
        a.lane(-0.5, 0, 0);
        a.step(0, 0);
        check.same("A of the first one", a.wish(0), 0.5);
        check.same("Z of the first one", a.wish(1), 0.05);
    }

    private static void theLaneIs0(Check check) {
        check.sentence("THE LANE has OFFSET, SLOPE, CURVE (0 at first)");
        AssistRows a = new AssistRows();
        a.step(0, 0);
        check.same("it asks for no steering", a.wish(1), 0.0);
        check.same("at 200 its middle is 0", Scene.withTrack(200, 1.75, 0, 0).wish(3), 200.0);
        check.same("at 200 its middle is 0", Scene.withTrack(200, -1.75, 0, 0).wish(3), 200.0);
        check.same("nothing beyond is in it", Scene.withTrack(200, Math.nextUp(1.75), 0, 0).wish(3), -1.0);
        check.same("nothing beyond is in it", Scene.withTrack(200, Math.nextDown(-1.75), 0, 0).wish(3), -1.0);
    }

    private static void theDriverIs0(Check check) {
        check.sentence("THE DRIVER has PEDAL, BRAKE, STEER (0 at first)");
        AssistRows a = new AssistRows();
        check.same("neither PEDAL nor BRAKE", a.step(1, 0), 0);
        check.same("neither PEDAL nor BRAKE", a.wish(0), -0.5);
        AssistRows b = new AssistRows();
        b.lane(-5, 0, 0);
        b.step(0, 0);
        check.same("no STEER above 0.05", b.wish(1), 0.05);
        check.same("no STEER above 0.3", Scene.withTrack(10, 0, 0, 20).stage(), 1);
    }

    private static void handsAreOn(Check check) {
        check.sentence("and the hands ON the wheel, or not (ON at first)");
        AssistRows a = new AssistRows();
        check.same("they were ON", a.hands(true, 0), 0);
        check.same("no hand-over may be asked", a.handOver(0), -3);
        check.same("no OFF of 15 or 40", a.step(1, 100000), 0);
        check.same("they were not off", new AssistRows().hands(false, 0), 1);
    }

    private static void theSpeedWishedIs0(Check check) {
        check.sentence("0 the SPEED wished (0 at first)");
        AssistRows a = new AssistRows();
        a.step(5, 0);
        check.same("A", a.wish(0), -2.5);
    }

    private static void theGapIsOneAndAHalf(Check check) {
        check.sentence("1 the GAP in seconds (1.5)");
        AssistRows a = new AssistRows();
        a.limit(0, 60);
        for (int n = 0; n < 3; n++) {
            Scene.see(a, 24, 0, 10, 10);
        }
        check.same("A", a.wish(0), (24 - (3 + 1.5 * 10)) * 0.2);
    }

    private static void theMostBrakingIs9(Check check) {
        check.sentence("2 the most BRAKING (9)");
        AssistRows a = new AssistRows();
        a.driver(1, 1);
        a.step(5, 0);
        check.same("a full BRAKE", a.wish(0), -9.0);
    }

    private static void theMostPullIs2(Check check) {
        check.sentence("3 the most PULL (2)");
        AssistRows a = new AssistRows();
        a.driver(0, 1);
        a.step(5, 0);
        check.same("a full PEDAL", a.wish(0), 2.0);
    }

    private static void noSignIsTaken(Check check) {
        check.sentence("SIGNS of KINDS 1 .. 13 have COUNTS, 0 at first. The SIGN (0 at first: none)");
        for (int kind = 1; kind <= 13; kind++) {
            AssistRows a = new AssistRows();
            check.same("none", a.sign(kind, 0), 0);
            a.sign(kind, 60);
            check.same("a COUNT of 3 is not taken", a.sign(kind, 30), 0);
            check.same("a COUNT of 4 is", a.sign(kind, 30), kind);
        }
    }

    private static void objectsAreApart(Check check) {
        check.sentence("No objects, no limits told.");
        String fresh = Later.of(AssistRows::new, 0);
        State.FULL.made();
        State.DRIVING.made();
        State.STOPPING.made();
        AssistRows a = new AssistRows();
        AssistRows b = new AssistRows();
        a.sign(4, 60);
        check.same("the COUNT of another object", b.sign(4, 60), 0);
        a.object(0, 10, 0, 0, 0);
        check.same("the MEASURE of another object", b.object(0, 10, 0, 0, 0), 1);
        check.holds("others that were told leave a new one as it is", fresh.equals(Later.of(AssistRows::new, 0)));
    }

    private static void used512Times(Check check) {
        check.sentence("An object is used for at most 512 calls after it has been made");
        AssistRows a = new AssistRows();
        for (int call = 1; call < 511; call += 2) {
            a.object(0, 60, 0, 10, call);
            a.step(10, call);
        }
        check.same("call 511", a.object(1, 60, 0, 10, 511), 1);
        check.same("call 512", a.step(10, 511), 1);
        AssistRows b = new AssistRows();
        for (int call = 1; call < 512; call++) {
            b.step(10, call);
        }
        check.same("call 512 is refused as the first would be", b.step(10, 510), -2);
        AssistRows c = new AssistRows();
        for (int call = 1; call < 511; call++) {
            c.sign(4, 29);
        }
        c.sign(4, 60);
        check.same("call 512", c.sign(4, 60), 4);
    }
}
