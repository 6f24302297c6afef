import java.util.List;
import java.util.function.Consumer;
import java.util.function.Supplier;

/**
 * Runs of calls that bring to light what an object holds, each made on an object
 * of its own, for one run hides what another one shows.
 */
final class Later {
    private static final List<Consumer<Later>> RUNS = List.of(
        Later::reading, Later::standing, Later::driving, Later::drivenByNobody, Later::pedalAndBrake,
        Later::steering, Later::following, Later::crowding, Later::differing, Later::touching,
        Later::asking, Later::waiting, Later::waitingWithHandsOn, Later::goingBack);

    private final AssistRows a;
    private final double now;
    private final StringBuilder text = new StringBuilder();

    private Later(AssistRows a, double now) {
        this.a = a;
        this.now = now;
    }

    /** All answers of all the runs on objects that were made alike, with the time of their last step. */
    static String of(Supplier<AssistRows> made, double now) {
        StringBuilder all = new StringBuilder();
        for (Consumer<Later> run : RUNS) {
            Later later = new Later(made.get(), now);
            run.accept(later);
            all.append(later.text).append('\n');
        }
        for (int kind = 1; kind <= 13; kind++) {
            Later later = new Later(made.get(), now);
            later.seeingSigns(kind);
            all.append(later.text).append('\n');
        }
        return all.toString();
    }

    private void told(double answer) {
        text.append(answer).append(' ');
    }

    private void reading() {
        text.append(Scene.picture(a));
    }

    private void standing() {
        for (int n = 0; n < 3; n++) {
            told(a.step(0, now));
            reading();
        }
    }

    private void step(double speed, double t) {
        told(a.step(speed, t));
        for (int what = 0; what < 4; what++) {
            told(a.wish(what));
        }
        told(a.stage());
    }

    private void driving() {
        for (double speed = 70; speed >= 0; speed -= 5) {
            step(speed, now);
        }
    }

    private void drivenByNobody() {
        for (int kind = 0; kind < 3; kind++) {
            a.driver(kind, 0);
        }
        for (double speed = 0; speed <= 70; speed += 2) {
            step(speed, now);
        }
    }

    private void pedalAndBrake() {
        a.driver(0, 1);
        step(20, now);
        a.driver(1, 1);
        step(20, now);
    }

    private void steering() {
        a.lane(-5, -1, 0);
        for (int n = 0; n < 8; n++) {
            step(20, now);
        }
    }

    private void following() {
        drivenByNobody();
        for (int n = 0; n < 4; n++) {
            a.object(0, 30, 2.5, 10, now);
            a.object(1, 30, 0.5, 10, now);
            step(10, now);
        }
    }

    private void crowding() {
        for (int n = 0; n < 5; n++) {
            told(a.object(0, 30 * n, 15, 20, now));
            told(a.object(1, 30 * n, -15, 20, now));
        }
        told(a.step(20, now + 0.125));
        reading();
    }

    private void differing() {
        for (int n = 0; n < 4; n++) {
            a.object(0, 170, 15, 20, now);
            a.object(1, 170, 15, 30, now);
            step(20, now);
        }
    }

    private void touching() {
        told(a.hands(true, now));
        told(a.handOver(now));
        told(a.hands(false, now));
        told(a.handOver(now));
        told(a.step(20, now));
    }

    private void asking() {
        told(a.handOver(now));
        waiting();
    }

    private void waiting() {
        for (int n = 0; n < 110; n++) {
            told(a.step(10, now + 0.5 * n));
        }
    }

    private void waitingWithHandsOn() {
        told(a.hands(true, now));
        step(10, now);
        step(0, now);
        told(a.hands(false, now));
        waiting();
    }

    private void goingBack() {
        double earlier = Math.nextDown(now);
        told(a.step(10, earlier));
        told(a.object(0, 10, 0, 10, earlier));
        told(a.hands(true, earlier));
        told(a.hands(false, earlier));
        told(a.handOver(earlier));
        step(10, now);
    }

    private void seeingSigns(int kind) {
        for (int n = 0; n < 5; n++) {
            told(a.sign(kind, 30));
        }
    }
}
