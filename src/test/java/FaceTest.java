import java.lang.reflect.Constructor;
import java.lang.reflect.Field;
import java.lang.reflect.Method;
import java.lang.reflect.Modifier;
import java.util.Arrays;
import java.util.HashSet;
import java.util.Set;
import java.util.TreeSet;

/** The class has the document's face and no other member that can be seen (LANGUAGE rules 1 and 11). */
public final class FaceTest {
    private static final String[] FACE = {
        "int letter(int)", "int blank()", "int fault()", "int dairy()", "int pan(int,int)", "int child(int,int)",
        "int as(int,int)", "int hour()", "int skim(int,int)", "int stir(int)", "int pour(int,int,int)",
        "int later(int,int,int)", "int plan(int,int,int)", "int treaty(int,int,int)", "int odds(int,int,int,int)",
        "int see(int,int,int)", "int forget()", "int nights(int,int,int)", "int image()", "int restore()",
        "int count(int)", "long digest()"};

    public static void main(String[] args) {
        Check check = new Check("FaceTest");
        Class<?> face = SkimmedSons.class;
        check.holds("public final", Modifier.isPublic(face.getModifiers()) && Modifier.isFinal(face.getModifiers()));
        methods(check, face);
        constants(check, face);
        Constructor<?>[] constructors = face.getDeclaredConstructors();
        check.due("constructors", constructors.length, 1);
        check.holds("its constructor is public and takes nothing",
            Modifier.isPublic(constructors[0].getModifiers()) && constructors[0].getParameterCount() == 0);
        nested(check, face);
        check.end();
    }

    private static void methods(Check check, Class<?> face) {
        Set<String> seen = new TreeSet<>();
        Set<String> publicNames = new HashSet<>();
        for (Method method : face.getDeclaredMethods()) {
            if (!Modifier.isPrivate(method.getModifiers())) {
                seen.add(signature(method));
                publicNames.add(method.getName());
                check.holds(method.getName() + " is public and no static one", method.getModifiers() == Modifier.PUBLIC);
            }
        }
        check.holds("methods are " + seen, seen.equals(new TreeSet<>(Arrays.asList(FACE))));
        for (Method method : face.getDeclaredMethods()) {
            check.holds(method.getName() + " is the name of a public one",
                !Modifier.isPrivate(method.getModifiers()) || !publicNames.contains(method.getName()));
            check.holds(method.getName() + " takes seven at most", method.getParameterCount() <= 7);
        }
    }

    private static String signature(Method method) {
        StringBuilder text = new StringBuilder(method.getReturnType() + " " + method.getName() + "(");
        for (Class<?> type : method.getParameterTypes()) {
            text.append(text.charAt(text.length() - 1) == '(' ? "" : ",").append(type);
        }
        return text.append(")").toString();
    }

    private static void constants(Check check, Class<?> face) {
        Set<String> seen = new TreeSet<>();
        for (Field field : face.getDeclaredFields()) {
            int modifiers = field.getModifiers();
            if (!Modifier.isPrivate(modifiers)) {
                seen.add(field.getName());
            }
            check.holds(field.getName() + " is final if it is static",
                !Modifier.isStatic(modifiers) || Modifier.isFinal(modifiers));
        }
        check.holds("constants are " + seen,
            seen.equals(new TreeSet<>(Arrays.asList("NONE", "UNKNOWN", "OUTSIDE", "STATE", "FULL"))));
        check.due("NONE", SkimmedSons.NONE, -1);
        check.due("UNKNOWN", SkimmedSons.UNKNOWN, -101);
        check.due("OUTSIDE", SkimmedSons.OUTSIDE, -102);
        check.due("STATE", SkimmedSons.STATE, -103);
        check.due("FULL", SkimmedSons.FULL, -104);
    }

    private static void nested(Check check, Class<?> face) {
        Class<?>[] inside = face.getDeclaredClasses();
        check.holds("some twelve classes at most", inside.length + 1 <= 12);
        check.holds("some twenty fields at most", fields(face) <= 20);
        for (Class<?> one : inside) {
            int modifiers = one.getModifiers();
            check.holds(one + " is static, and not public or protected", Modifier.isStatic(modifiers)
                && !Modifier.isPublic(modifiers) && !Modifier.isProtected(modifiers));
            check.holds(one + " has some twenty fields at most", fields(one) <= 20);
        }
    }

    private static long fields(Class<?> one) {
        return Arrays.stream(one.getDeclaredFields()).filter(f -> !Modifier.isStatic(f.getModifiers())).count();
    }
}
