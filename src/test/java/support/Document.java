import java.io.IOException;
import java.nio.file.Files;
import java.nio.file.Path;
import java.util.ArrayList;
import java.util.List;
import java.util.regex.Matcher;
import java.util.regex.Pattern;

/** The document's own words: a test names those that it holds the class to, and at the end none may be left unnamed. */
final class Document {
    static final int PROMISES = 39;
    private static final Path FILE = Path.of("../shared/DOC.md");

    /** A part of the document, without its marks, all space between words made one; and which signs of it have been named. */
    private static final class Passage {
        final String text;
        final boolean[] named;

        Passage(String raw) {
            text = raw.replaceAll("(?m)^Ahead of the calls .*$", "").replaceAll("```(text)?|=====+", "").replaceAll("\\s+", " ").strip();
            named = new boolean[text.length()];
        }

        /** Of several places where the words stand, the first that has not been named yet is taken. */
        boolean name(String words) {
            int at = text.indexOf(words);
            for (int next = at; next >= 0; next = text.indexOf(words, next + 1)) {
                if (!isNamed(next, next + words.length())) {
                    at = next;
                    break;
                }
            }
            for (int i = 0; at >= 0 && i < words.length(); i++) {
                named[at + i] = true;
            }
            return at >= 0;
        }

        private boolean isNamed(int from, int to) {
            for (int i = from; i < to; i++) {
                if (!named[i]) {
                    return false;
                }
            }
            return true;
        }

        void addUnnamed(String where, List<String> all) {
            StringBuilder left = new StringBuilder();
            for (int i = 0; i < named.length; i++) {
                left.append(named[i] ? '\n' : text.charAt(i));
            }
            for (String part : left.toString().split("\n+")) {
                if (part.chars().anyMatch(Character::isLetterOrDigit)) {
                    all.add(where + ": " + part.strip());
                }
            }
        }
    }

    private final Passage[] promises = new Passage[PROMISES + 1];
    private Passage terms = null;

    /** Where the document is not at hand, the tests run all the same, and their words are not looked up. */
    Document() throws IOException {
        if (!Files.exists(FILE)) {
            System.out.println("no " + FILE + ": the words of the document are not looked up");
            return;
        }
        for (String part : Files.readString(FILE).split("(?m)^## ")) {
            Matcher promise = Pattern.compile("(?s)Promise (\\d+): [^\n]*\n\\s*`[^`]*`: (.*)").matcher(part);
            if (promise.matches() && Integer.parseInt(promise.group(1)) <= PROMISES) {
                promises[Integer.parseInt(promise.group(1))] = new Passage(promise.group(2));
            } else if (part.startsWith("Terms\n")) {
                terms = new Passage(part.substring("Terms\n".length()));
            }
        }
    }

    /** Whether the words stand under the promise's heading, or else in the terms; they are named from now on. */
    boolean says(int promise, String words) {
        if (terms == null) {
            return true;
        }
        return promises[promise] != null && promises[promise].name(words) || terms.name(words);
    }

    List<String> unnamed() {
        List<String> all = new ArrayList<>();
        for (int i = 1; terms != null && i <= PROMISES; i++) {
            if (promises[i] == null) {
                all.add("Promise " + i + " is not found");
            } else {
                promises[i].addUnnamed("Promise " + i, all);
            }
        }
        if (terms != null) {
            terms.addUnnamed("Terms", all);
        }
        return all;
    }
}
