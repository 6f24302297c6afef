import java.io.ByteArrayInputStream;
import java.io.DataInputStream;
import java.io.IOException;
import java.io.InputStream;
import java.lang.reflect.Array;
import java.lang.reflect.Executable;
import java.lang.reflect.Field;
import java.lang.reflect.Method;
import java.lang.reflect.Modifier;
import java.nio.file.Files;
import java.nio.file.Path;
import java.util.ArrayList;
import java.util.IdentityHashMap;
import java.util.List;
import java.util.Map;
import java.util.Set;
import java.util.TreeSet;
import java.util.regex.Matcher;
import java.util.regex.Pattern;

/** The rules of LANGUAGE.md that can be read off the text and the compiled class; FaceTest has the others of this kind. */
final class LanguageTest {
    private static final Set<Class<?>> CONSTANTS = Set.of(int.class, long.class, boolean.class, char.class, String.class);
    private static final Set<String> LIBRARY = Set.of("java/lang/Object", "java/lang/ArithmeticException");
    /** What all calls of one run may make, and how many objects of the class a run is taken to need. */
    private static final int ROOM_OF_OBJECTS = 600_000;
    private static final int ROOM_OF_ELEMENTS = 7_300_000;
    private static final int OBJECTS_OF_A_RUN = 10_000;

    private final Check check;
    private final List<Class<?>> classes = new ArrayList<>();
    private final String code;

    private LanguageTest(Check check) throws IOException {
        this.check = check;
        classes.add(AssistRows.class);
        classes.addAll(List.of(AssistRows.class.getDeclaredClasses()));
        String source = Files.readString(Path.of("src/main/java/AssistRows.java"));
        code = source.replaceAll("(?s)/\\*.*?\\*/", "").replaceAll("//[^\n]*", "").replaceAll("\"[^\"]*\"", "\"\"");
    }

    public static void main(String[] args) throws Exception {
        Check check = new Check("LanguageTest");
        LanguageTest test = new LanguageTest(check);
        test.names();
        test.types();
        test.library();
        test.staticFields();
        test.exceptions();
        test.divisions();
        test.loops();
        test.sizes();
        test.whereObjectsAreMade();
        test.room();
        check.end();
    }

    private void names() {
        Set<String> ofTheFace = new TreeSet<>();
        for (Method method : AssistRows.class.getDeclaredMethods()) {
            if (Modifier.isPublic(method.getModifiers())) {
                ofTheFace.add(method.getName());
            }
        }
        for (Class<?> inside : AssistRows.class.getDeclaredClasses()) {
            for (Method method : inside.getDeclaredMethods()) {
                check.holds("rule 1: " + method + " has a name of its own", !ofTheFace.contains(method.getName()));
            }
        }
    }

    private void types() {
        for (Class<?> one : classes) {
            for (Field field : one.getDeclaredFields()) {
                check.holds("rule 3: " + field, isOfTheLanguage(field.getType()));
            }
            for (Method method : one.getDeclaredMethods()) {
                check.holds("rule 3: what " + method + " answers", isOfTheLanguage(method.getReturnType()));
                for (Class<?> parameter : method.getParameterTypes()) {
                    check.holds("rule 3: " + method, isOfTheLanguage(parameter));
                }
            }
        }
    }

    private boolean isOfTheLanguage(Class<?> type) {
        Class<?> part = type.isArray() ? type.getComponentType() : type;
        return part.isPrimitive() || part == String.class || classes.contains(part);
    }

    /** A constant pool names each class that is used, and what is put together at run time only (by + on texts, by ->). */
    private void library() throws IOException {
        for (Class<?> one : classes) {
            for (String name : namedBy(one)) {
                boolean own = name.startsWith("AssistRows") || name.startsWith("[");
                check.holds("rule 4: " + one + " uses " + name, own || LIBRARY.contains(name));
            }
        }
    }

    private Set<String> namedBy(Class<?> one) throws IOException {
        byte[] bytes;
        try (InputStream in = LanguageTest.class.getResourceAsStream("/" + one.getName() + ".class")) {
            bytes = in.readAllBytes();
        }
        DataInputStream in = new DataInputStream(new ByteArrayInputStream(bytes));
        in.skipNBytes(8);
        int size = in.readUnsignedShort();
        String[] texts = new String[size];
        List<Integer> named = new ArrayList<>();
        for (int i = 1; i < size; i++) {
            int tag = in.readUnsignedByte();
            if (tag == 1) {
                texts[i] = in.readUTF();
            } else if (tag == 7) {
                named.add(in.readUnsignedShort());
            } else {
                check.holds("rules 2 and 10: " + one + " puts nothing together at run time", tag < 15);
                in.skipNBytes(lengthOf(tag));
                // A long and a double take two places.
                i += tag == 5 || tag == 6 ? 1 : 0;
            }
        }
        Set<String> names = new TreeSet<>();
        for (int at : named) {
            names.add(texts[at]);
        }
        return names;
    }

    /** Bytes of an entry of a constant pool behind its tag. */
    private static int lengthOf(int tag) {
        return switch (tag) {
            case 5, 6 -> 8;
            case 8, 16 -> 2;
            case 15 -> 3;
            default -> 4;
        };
    }

    private void staticFields() {
        for (Class<?> one : classes) {
            for (Field field : one.getDeclaredFields()) {
                int how = field.getModifiers();
                check.holds("rule 5: " + field, !Modifier.isStatic(how)
                    || Modifier.isFinal(how) && CONSTANTS.contains(field.getType()));
            }
        }
    }

    private void exceptions() {
        check.same("rule 6: throw statements", count("\\bthrow\\b"), 1);
        check.same("rule 6: that of whole", count("if \\(speed == 0\\) \\{\\s*throw new ArithmeticException\\(\"\"\\);"), 1);
        check.same("rule 6: try", count("\\btry\\b"), 0);
        for (Class<?> one : classes) {
            for (Method method : one.getDeclaredMethods()) {
                boolean mayThrow = method.getName().equals("whole");
                check.holds("rule 6: " + method, mayThrow == (method.getExceptionTypes().length == 1));
            }
        }
    }

    /** Each divisor stands behind its test; no remainder is asked for, and casts are of numbers alone. */
    private void divisions() {
        check.same("rule 7: divisions", count("/"), 2);
        check.same("rule 7: closing is tested", count("closing > 0 \\? x\\[i\\] / closing : -1"), 1);
        check.same("rule 7: the speed is tested", count("speed == 0\\) \\{[^}]*\\}\\s*return metres / speed;"), 1);
        check.same("rule 7: remainders", count("%"), 0);
        check.same("rule 7: casts to other than int", count("\\((?!int\\))\\w+\\) [(\\w]"), 0);
    }

    private void loops() {
        check.same("rule 9: while and do", count("\\b(while|do)\\b"), 0);
        check.same("rule 9: loops by a counter that goes up to a constant", count("\\bfor\\b"),
            count("for \\(int ([a-z]) = [01]; \\1 <=? (TRACKS|MEASURES|SIGN_KINDS)( && [^;]*)?; \\1\\+\\+\\)"));
    }

    private void sizes() {
        check.holds("rule 11: some twelve classes at most", classes.size() <= 12);
        for (Class<?> one : classes) {
            List<Executable> all = new ArrayList<>(List.of(one.getDeclaredMethods()));
            all.addAll(List.of(one.getDeclaredConstructors()));
            for (Executable method : all) {
                check.holds("rule 11: parameters of " + method, method.getParameterCount() <= 7);
            }
        }
        int begun = 0;
        String[] lines = code.split("\n");
        for (int n = 0; n < lines.length; n++) {
            if (lines[n].matches(" +[^=;]*\\) (throws \\w+ )?\\{") && !lines[n].matches(" +(\\} else )?(if|for|switch) .*")) {
                begun = n;
            }
            check.holds("rule 11: line " + n + " belongs to a short method", n - begun <= 60 || lines[n].isBlank());
        }
    }

    private void whereObjectsAreMade() {
        int inFields = count("final (double|int|boolean|Pairing)(\\[\\])? \\w+ = new [\\w\\[\\]*+ ]+(\\(\\))?;");
        int inTheConstructor = count("\n {8}\\w+ = new [A-Z]\\w*\\(\\);");
        check.same("rule 12: each new is of a field, or of the exception", count("\\bnew\\b"), inFields + inTheConstructor + 1);
        check.same("rule 12: the constructor's", inTheConstructor, 8);
    }

    private void room() throws IllegalAccessException {
        long[] made = kept(new AssistRows());
        check.holds("rule 12: objects of a run", made[0] * OBJECTS_OF_A_RUN <= ROOM_OF_OBJECTS);
        check.holds("rule 12: fields and elements of a run", made[1] * OBJECTS_OF_A_RUN <= ROOM_OF_ELEMENTS);
        for (State state : State.values()) {
            List<AssistRows> used = new ArrayList<>();
            Later.of(() -> {
                AssistRows a = state.made();
                used.add(a);
                return a;
            }, state.now);
            for (AssistRows a : used) {
                long[] then = kept(a);
                check.same("rule 12: objects kept after calls, " + state, then[0], made[0]);
                check.same("rule 12: elements kept after calls, " + state, then[1], made[1]);
            }
        }
    }

    /** How many objects and arrays hang together with this one, and how many fields and elements they have. */
    private long[] kept(AssistRows a) throws IllegalAccessException {
        Map<Object, Boolean> met = new IdentityHashMap<>();
        List<Object> rest = new ArrayList<>();
        rest.add(a);
        long elements = 0;
        while (!rest.isEmpty()) {
            Object one = rest.remove(rest.size() - 1);
            if (one == null || met.put(one, true) != null) {
                continue;
            }
            if (one.getClass().isArray()) {
                elements += Array.getLength(one);
                continue;
            }
            for (Field field : one.getClass().getDeclaredFields()) {
                if (!Modifier.isStatic(field.getModifiers())) {
                    elements++;
                    field.setAccessible(true);
                    if (!field.getType().isPrimitive()) {
                        rest.add(field.get(one));
                    }
                }
            }
        }
        return new long[] {met.size(), elements};
    }

    private int count(String words) {
        Matcher matcher = Pattern.compile(words).matcher(code);
        int found = 0;
        while (matcher.find()) {
            found++;
        }
        return found;
    }
}
