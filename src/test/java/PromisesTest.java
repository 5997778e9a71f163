import java.io.IOException;
import java.lang.reflect.InvocationTargetException;
import java.lang.reflect.Method;
import java.util.Arrays;
import java.util.Comparator;
import java.util.List;

/**
 * Every test of src/test/java/promises: each names a promise and words of the document, and asks for what they say.
 * It fails, too, if words of a promise or of the terms are named by no test.
 */
public final class PromisesTest {
    private static final List<Class<?>> GROUPS = List.of(TermPromises.class, RowPromises.class, ToldPromises.class, DonePromises.class,
        ForetoldPromises.class, AskedPromises.class);

    public static void main(String[] args) throws IOException, IllegalAccessException {
        Document document = new Document();
        Due due = new Due(document);
        int tests = 0;
        for (Class<?> group : GROUPS) {
            for (Method test : testsOf(group)) {
                run(due, test);
                tests++;
            }
        }
        due.saysNoMore();
        for (int promise = 1; promise <= Document.PROMISES; promise++) {
            due.is("whether a test names promise " + promise, due.promises().contains(promise) ? 1 : 0, 1);
        }
        for (String words : document.unnamed()) {
            due.fail("no test names these words: " + words);
        }
        System.out.println(tests + " tests of " + due.promises().size() + " promises");
        due.end();
    }

    private static List<Method> testsOf(Class<?> group) {
        return Arrays.stream(group.getDeclaredMethods())
            .filter(m -> Arrays.equals(m.getParameterTypes(), new Class<?>[] {Due.class}) && m.getReturnType() == void.class)
            .sorted(Comparator.comparing(Method::getName)).toList();
    }

    private static void run(Due due, Method test) throws IllegalAccessException {
        due.saysNoMore();
        int asked = due.asked();
        try {
            test.invoke(null, due);
        } catch (InvocationTargetException e) {
            due.fail(test.getName() + " threw " + e.getCause() + (e.getCause().getCause() == null ? "" : ": " + e.getCause().getCause().getCause()));
        }
        if (!due.names() || due.asked() == asked) {
            due.fail(test.getName() + " names no promise, or asks nothing");
        }
    }
}
