import java.lang.reflect.InvocationTargetException;
import java.lang.reflect.Method;
import java.util.Comparator;
import java.util.List;
import java.util.Set;
import java.util.TreeSet;
import java.util.stream.Stream;

/**
 * Runs the tests of the boundary cases: all methods named after a promise, such as
 * promise07FirstAndLastNumber, of the classes told here. Each promise must have one.
 */
public final class BoundsTest {
    private static final List<Class<?>> HOLDERS =
            List.of(YardBounds.class, MoveBounds.class, RowBounds.class, SchemeBounds.class);

    private BoundsTest() {
    }

    public static void main(String[] args) throws IllegalAccessException, InvocationTargetException {
        Set<Integer> promises = new TreeSet<>();
        List<Method> tests = HOLDERS.stream().flatMap(holder -> Stream.of(holder.getDeclaredMethods()))
                .filter(method -> method.getName().matches("promise\\d\\d\\w+"))
                .sorted(Comparator.comparing(Method::getName)).toList();
        for (Method test : tests) {
            Check.part(test.getName());
            test.invoke(null);
            promises.add(Integer.parseInt(test.getName().substring(7, 9)));
        }
        Check.part("the tests");
        for (int promise = 1; promise <= 33; promise++) {
            Check.due("promise " + promise + " has a test", promises.contains(promise), true);
        }
        System.out.println(tests.size() + " tests");
        Check.end();
    }
}
