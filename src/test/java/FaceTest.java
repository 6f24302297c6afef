import java.lang.reflect.Constructor;
import java.lang.reflect.Field;
import java.lang.reflect.Method;
import java.lang.reflect.Modifier;
import java.nio.file.Files;
import java.nio.file.Path;
import java.util.TreeSet;
import java.util.regex.Pattern;

/** The document's face, and what a look at the text tells of the rules of LANGUAGE.md. */
final class FaceTest {
    private static final String[] FACE = {
        "double time(int)", "double wish(int)", "int driver(int,double)", "int hands(boolean,double)",
        "int handOver(double)", "int lane(double,double,double)", "int limit(int,double)", "int mode()",
        "int object(int,double,double,double,double)", "int sign(int,int)", "int stage()",
        "int step(double,double)", "int track(int,int)", "long whole(long,long)"
    };
    private static final String[] LEFT_OUT = {
        "\\bimport\\b", "\\bpackage\\b", "\\bcatch\\b", "\\bfinally\\b", "\\bsynchronized\\b", "\\bassert\\b",
        "\\bMath\\.", "\\bSystem\\.", "->", "::", "\\bstatic\\s*\\{", "static final double", "\\bDouble\\b",
        "\\bprotected\\b", "\\bnative\\b", "[^\\x00-\\x7f]"
    };

    public static void main(String[] args) throws Exception {
        Check check = new Check("FaceTest");
        members(check);
        nested(check);
        text(check);
        check.end();
    }

    private static void members(Check check) throws Exception {
        Class<?> face = AssistRows.class;
        check.same("public final", face.getModifiers(), Modifier.PUBLIC | Modifier.FINAL);
        Constructor<?>[] made = face.getDeclaredConstructors();
        check.same("constructors", made.length, 1);
        check.holds("AssistRows() is public", Modifier.isPublic(made[0].getModifiers()) && made[0].getParameterCount() == 0);
        TreeSet<String> found = new TreeSet<>();
        TreeSet<String> names = new TreeSet<>();
        for (Method method : face.getDeclaredMethods()) {
            if (Modifier.isPublic(method.getModifiers())) {
                found.add(head(method));
                names.add(method.getName());
            }
        }
        check.holds("the public methods are " + found, found.equals(new TreeSet<>(java.util.List.of(FACE))));
        for (Method method : face.getDeclaredMethods()) {
            int how = method.getModifiers();
            check.holds(method + " is public or private", Modifier.isPublic(how) || Modifier.isPrivate(how));
            check.holds(method + " has a name of its own", Modifier.isPublic(how) || !names.contains(method.getName()));
        }
        for (Field field : face.getDeclaredFields()) {
            int how = field.getModifiers();
            check.holds(field + " is private", Modifier.isPrivate(how));
            check.holds(field + " is no other static state", !Modifier.isStatic(how) || Modifier.isFinal(how));
        }
        Class<?>[] thrown = face.getMethod("whole", long.class, long.class).getExceptionTypes();
        check.holds("whole declares its exception", thrown.length == 1 && thrown[0] == ArithmeticException.class);
    }

    private static String head(Method method) {
        StringBuilder text = new StringBuilder(method.getReturnType() + " " + method.getName() + "(");
        String comma = "";
        for (Class<?> parameter : method.getParameterTypes()) {
            text.append(comma).append(parameter);
            comma = ",";
        }
        return text.append(")").toString();
    }

    private static void nested(Check check) {
        Class<?>[] inside = AssistRows.class.getDeclaredClasses();
        check.holds("some twelve classes at most", inside.length <= 12);
        for (Class<?> one : inside) {
            check.holds(one + " is private", Modifier.isPrivate(one.getModifiers()));
            check.holds(one + " is static", Modifier.isStatic(one.getModifiers()));
            check.holds(one + " has some twenty fields at most", one.getDeclaredFields().length <= 20);
        }
    }

    private static void text(Check check) throws Exception {
        String source = Files.readString(Path.of("src/main/java/AssistRows.java"));
        String code = source.replaceAll("(?s)/\\*.*?\\*/", "").replaceAll("//[^\n]*", "");
        for (String word : LEFT_OUT) {
            check.holds("without " + word, !Pattern.compile(word).matcher(code).find());
        }
    }
}
