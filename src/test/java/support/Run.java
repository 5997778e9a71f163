import java.lang.reflect.InvocationTargetException;
import java.lang.reflect.Method;
import java.lang.reflect.Modifier;
import java.util.Map;
import java.util.TreeMap;
import java.util.regex.Matcher;
import java.util.regex.Pattern;

/** One object of the class; its calls are told as text, as issues tell them, so that what is printed is what was asked. */
final class Run {
    private static final int MOST_CALLS = 512;
    private static final Pattern FORM = Pattern.compile("(\\w+)\\(([-0-9, ]*)\\)");
    private static final Map<String, Method> CALLS = new TreeMap<>();

    static {
        for (Method m : HungStalls.class.getDeclaredMethods()) {
            if (Modifier.isPublic(m.getModifiers())) {
                CALLS.put(m.getName(), m);
            }
        }
    }

    private final Due due;
    private final HungStalls object = new HungStalls();
    private int calls = 0;

    Run(Due due) {
        this.due = due;
    }

    /** A new object that has read a market. */
    static Run told(Due due, String text) {
        Run x = new Run(due);
        if (x.reads(text) < 0) {
            due.fail("the market is refused: " + text);
        }
        return x;
    }

    int answer(String call) {
        Matcher form = FORM.matcher(call);
        if (!form.matches() || !CALLS.containsKey(form.group(1))) {
            throw new IllegalArgumentException(call);
        }
        String[] told = form.group(2).isBlank() ? new String[0] : form.group(2).split(",");
        Object[] values = new Object[told.length];
        for (int i = 0; i < told.length; i++) {
            values[i] = Integer.parseInt(told[i].strip());
        }
        calls++;
        if (calls > MOST_CALLS) {
            due.fail("the test makes more calls than the document has answers for");
        }
        try {
            return (Integer) CALLS.get(form.group(1)).invoke(object, values);
        } catch (InvocationTargetException | IllegalAccessException e) {
            throw new IllegalStateException(call + " threw", e);
        }
    }

    /** Calls for which the same answer is due. */
    Run is(int want, String... all) {
        for (String call : all) {
            due.is(call, answer(call), want);
        }
        return this;
    }

    /** Calls that only prepare what is asked; none of them may be refused. */
    Run does(String... all) {
        for (String call : all) {
            if (answer(call) <= Due.NONE) {
                due.fail(call + " is refused, though it only prepares the test");
            }
        }
        return this;
    }

    Run times(int n, String call) {
        for (int i = 0; i < n; i++) {
            does(call);
        }
        return this;
    }

    Run feed(String text) {
        for (char c : text.toCharArray()) {
            does("feed(" + (int) c + ")");
        }
        return this;
    }

    /** What market() answers to a text. */
    int reads(String text) {
        feed(text);
        return answer("market()");
    }

    Run row(int row, int lane, int... items) {
        does("row(" + row + ", " + lane + ", " + items.length + ")");
        for (int i = 0; i < items.length; i++) {
            does("set(" + row + ", " + i + ", " + items[i] + ")");
        }
        return this;
    }
}
