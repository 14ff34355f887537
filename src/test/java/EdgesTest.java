import java.lang.reflect.InvocationTargetException;
import java.lang.reflect.Method;
import java.lang.reflect.Modifier;
import java.util.Arrays;
import java.util.Comparator;
import java.util.Set;
import java.util.TreeSet;

/**
 * Runs every boundary case of the document by itself. A case is a method of one of the classes below, named by its
 * promise (p02_..; p00_.. for what stands ahead of the promises) and by what is at the edge there.
 */
public final class EdgesTest {
    private static final Class<?>[] CASES = {
        EdgesOfTerms.class, EdgesOfDairy.class, EdgesOfPansAndChildren.class, EdgesOfDone.class, EdgesOfWouldBe.class,
        EdgesOfSeen.class, EdgesOfWhole.class};
    private static final int PROMISES = 23;

    public static void main(String[] args) throws IllegalAccessException, InvocationTargetException {
        Check check = new Check("EdgesTest");
        Set<Integer> promises = new TreeSet<>();
        for (Class<?> cases : CASES) {
            Method[] methods = cases.getDeclaredMethods();
            Arrays.sort(methods, Comparator.comparing(Method::getName));
            for (Method method : methods) {
                if (isCase(method)) {
                    promises.add(promiseOf(check, method.getName()));
                    run(check, method);
                }
            }
        }
        for (int promise = 0; promise <= PROMISES; promise++) {
            check.holds("there are cases of promise " + promise, promises.contains(promise));
        }
        check.end();
    }

    private static boolean isCase(Method method) {
        return !Modifier.isPrivate(method.getModifiers()) && !method.isSynthetic()
            && Arrays.equals(method.getParameterTypes(), new Class<?>[] {Check.class});
    }

    private static int promiseOf(Check check, String name) {
        boolean named = name.matches("p\\d\\d_\\w+");
        check.holds(name + " is named by its promise", named);
        return named ? Integer.parseInt(name.substring(1, 3)) : SkimmedSons.NONE;
    }

    private static void run(Check check, Method method) throws IllegalAccessException, InvocationTargetException {
        Check own = new Check(method.getName());
        method.invoke(null, own);
        check.holds(method.getName() + " asks for something", own.asked() > 0);
        check.due("wrong in " + method.getName(), own.wrong(), 0);
    }
}
