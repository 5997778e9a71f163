import java.util.Set;
import java.util.TreeSet;

/** Counts and prints the calls whose answer is not the one that is due, under the words of the document that ask for it. */
final class Due {
    static final int NONE = -1000000, BAD = -1000001, STATE = -1000002, FULL = -1000003;
    static final int NULL = -1000011, PLACE = -1000012, KIND = -1000013, SIZE = -1000014, STORE = -1000015;

    private final Document document;
    private final Set<Integer> promises = new TreeSet<>();
    private String by = "";
    private int asked = 0;
    private int wrong = 0;

    Due() {
        this(null);
    }

    Due(Document document) {
        this.document = document;
    }

    /** What is asked from now on holds the class to these words of a promise, or of the terms that it uses. */
    void says(int promise, String words) {
        by = "Promise " + promise + " (" + words + "): ";
        promises.add(promise);
        if (document != null && !document.says(promise, words)) {
            fail("the document does not say so");
        }
    }

    void saysNoMore() {
        by = "";
    }

    void is(String call, long got, long want) {
        asked++;
        if (got != want) {
            fail(call + " answered " + got + ", due is " + want);
        }
    }

    void fail(String why) {
        wrong++;
        System.out.println(by + why);
    }

    boolean names() {
        return !by.isEmpty();
    }

    Set<Integer> promises() {
        return promises;
    }

    int asked() {
        return asked;
    }

    int wrong() {
        return wrong;
    }

    void end() {
        System.out.println(asked + " answers, " + wrong + " not as due");
        if (wrong != 0 || asked == 0) {
            System.exit(1);
        }
    }
}
