import java.util.EnumMap;
import java.util.Map;
import java.util.function.ToDoubleFunction;

/** Calls that must answer as told and change nothing, as later calls show. */
final class Refusal {
    private static final Map<State, String> WITHOUT = new EnumMap<>(State.class);

    private final Check check;

    Refusal(Check check) {
        this.check = check;
    }

    void everywhere(String name, ToDoubleFunction<AssistRows> call, double due) {
        for (State state : State.values()) {
            in(state, name, call, due);
        }
    }

    void in(State state, String name, ToDoubleFunction<AssistRows> call, double due) {
        check.same(state + ", " + name, call.applyAsDouble(state.made()), due);
        String without = WITHOUT.computeIfAbsent(state, s -> Later.of(s::made, s.now));
        String with = Later.of(() -> {
            AssistRows a = state.made();
            call.applyAsDouble(a);
            return a;
        }, state.now);
        check.holds(state + ", " + name + " changes nothing", with.equals(without));
    }
}
