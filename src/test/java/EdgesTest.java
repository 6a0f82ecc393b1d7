import java.lang.reflect.Method;
import java.util.Arrays;
import java.util.Comparator;
import java.util.regex.Matcher;
import java.util.regex.Pattern;

/**
 * Runs a test for each sentence that names a boundary case: each method of the classes below whose name begins
 * with "promise" and the number of the promise, by which the sentence is found in the document.
 */
public final class EdgesTest {
    private static final Class<?>[] PARTS = {EdgesOfTelling.class, EdgesOfMills.class, EdgesOfChange.class,
        EdgesOfADay.class, EdgesOfSets.class, EdgesOfTheRow.class, EdgesOfTheTray.class, EdgesBeside.class,
        EdgesOtherwise.class};
    private static final Pattern NAME = Pattern.compile("promise([0-9]+)[A-Z]\\w*");

    public static void main(String[] args) throws ReflectiveOperationException {
        boolean[] tested = new boolean[54];
        int tests = 0;
        for (Class<?> part : PARTS) {
            Method[] methods = part.getDeclaredMethods();
            Arrays.sort(methods, Comparator.comparing(Method::getName));
            for (Method method : methods) {
                Matcher name = NAME.matcher(method.getName());
                if (!name.matches()) continue;
                Check.about(part.getSimpleName() + "." + method.getName());
                int before = Check.calls();
                method.invoke(null);
                Check.due("it looks at something", Check.calls() > before ? 1 : 0, 1);
                tested[Integer.parseInt(name.group(1))] = true;
                tests++;
            }
        }
        Check.about("EdgesTest");
        for (int promise = 1; promise <= 53; promise++) Check.due("a test of promise " + promise, tested[promise] ? 1 : 0, 1);
        System.out.println(tests + " tests of edges");
        Check.end();
    }
}
