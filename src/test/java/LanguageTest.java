import java.io.IOException;
import java.lang.reflect.Constructor;
import java.lang.reflect.Field;
import java.lang.reflect.Method;
import java.lang.reflect.Modifier;
import java.nio.file.Files;
import java.nio.file.Path;
import java.util.ArrayList;
import java.util.Arrays;
import java.util.Comparator;
import java.util.List;
import java.util.Set;
import java.util.TreeSet;
import java.util.regex.Matcher;
import java.util.regex.Pattern;

/** The face of the document, and those rules of LANGUAGE.md that can be looked up in the text and the classes. */
public final class LanguageTest {
    private static final Due DUE = new Due();
    private static final String FACE = "row3 set3 copy5 drop1 feed1 market0 fault0 undo0 buyers2 girl2 slide2 unload2 rain0 cut1 stall2 rope3 drops0 "
        + "walkway2 walkways1 even3 bestSlide1 unloaded1 whoCut2 box3 reads5 holds1 falls1 dearest1 rented3 wind3 image1 restore1 "
        + "kind1 as2 ask2 trace1 count1 status0";

    public static void main(String[] args) throws IOException {
        face();
        classes();
        text(Files.readString(Path.of("src/main/java/HungStalls.java")));
        DUE.end();
    }

    private static void no(String what, boolean isSo) {
        DUE.is(what, isSo ? 1 : 0, 0);
    }

    private static void face() {
        Set<String> due = new TreeSet<>(Arrays.asList(FACE.split(" ")));
        Set<String> got = new TreeSet<>();
        for (Method m : HungStalls.class.getDeclaredMethods()) {
            if (Modifier.isPublic(m.getModifiers())) {
                got.add(m.getName() + m.getParameterCount());
                no(m.getName() + " is static", Modifier.isStatic(m.getModifiers()));
                no(m.getName() + " answers no int", m.getReturnType() != int.class);
                no(m.getName() + " takes no ints", Arrays.stream(m.getParameterTypes()).anyMatch(t -> t != int.class));
            } else {
                no(m.getName() + " is neither public nor private", !Modifier.isPrivate(m.getModifiers()));
            }
        }
        no("the methods are not those of the document: " + got, !got.equals(due));
        Constructor<?>[] made = HungStalls.class.getDeclaredConstructors();
        no("another constructor", made.length != 1 || made[0].getParameterCount() != 0 || !Modifier.isPublic(made[0].getModifiers()));
        no("the class is not public and final", (HungStalls.class.getModifiers() & (Modifier.PUBLIC | Modifier.FINAL)) != (Modifier.PUBLIC | Modifier.FINAL));
        Set<String> constants = new TreeSet<>();
        for (Field f : HungStalls.class.getDeclaredFields()) {
            if (!Modifier.isPrivate(f.getModifiers())) {
                constants.add(f.getName());
            }
        }
        no("the constants are not those of the document: " + constants, !constants.equals(Set.of("NONE", "BAD", "STATE", "FULL")));
        DUE.is("NONE", HungStalls.NONE, -1000000);
        DUE.is("BAD", HungStalls.BAD, -1000001);
        DUE.is("STATE", HungStalls.STATE, -1000002);
        DUE.is("FULL", HungStalls.FULL, -1000003);
    }

    private static void classes() {
        List<Class<?>> all = new ArrayList<>(List.of(HungStalls.class));
        all.addAll(Arrays.asList(HungStalls.class.getDeclaredClasses()));
        all.sort(Comparator.comparing(Class::getName));
        no("more than twelve classes", all.size() > 12);
        Set<String> open = new TreeSet<>();
        for (String call : FACE.split(" ")) {
            open.add(call.substring(0, call.length() - 1));
        }
        for (Class<?> c : all) {
            no(c + " is not static, or open", c != HungStalls.class
                && (!Modifier.isStatic(c.getModifiers()) || (c.getModifiers() & (Modifier.PUBLIC | Modifier.PROTECTED)) != 0));
            int fields = 0;
            for (Field f : c.getDeclaredFields()) {
                boolean isStatic = Modifier.isStatic(f.getModifiers());
                no(f + " is static, but not final", isStatic && !Modifier.isFinal(f.getModifiers()));
                fields += isStatic ? 0 : 1;
            }
            no(c + " has more than twenty fields", fields > 20);
            for (Method m : c.getDeclaredMethods()) {
                no(m + " takes more than seven", m.getParameterCount() > 7);
                no(m + " bears the name of a call", Modifier.isPrivate(m.getModifiers()) && open.contains(m.getName()));
            }
        }
    }

    private static void text(String source) {
        no("signs beyond 127", source.chars().anyMatch(c -> c > 127));
        String code = source.replaceAll("(?s)/\\*.*?\\*/", "").replaceAll("//[^\n]*", "").replaceAll("'(\\\\.|[^'])'", "' '").replaceAll("\"[^\"\n]*\"", "\"\"");
        for (String word : List.of("throw", "throws", "try", "catch", "finally", "synchronized", "assert", "package", "volatile", "native", "transient",
            "equals", "hashCode", "toString", "System.nanoTime", "System.currentTimeMillis", "Random", "Thread", "Exact", "Object", "var")) {
            no("the word " + word, Pattern.compile("\\b" + Pattern.quote(word) + "\\b").matcher(code).find());
        }
        no("a lambda, or a method reference", code.contains("->") || code.contains("::"));
        Matcher imports = Pattern.compile("import ([^;]*);").matcher(code);
        while (imports.find()) {
            no("import " + imports.group(1), !imports.group(1).equals("java.util.Arrays"));
        }
        no("no endless loop", code.contains("while (true)") || code.contains("for (;;)"));
        String[] lines = source.split("\n");
        for (int i = 0; i < lines.length; i++) {
            Matcher begin = Pattern.compile("^( {4}| {8})\\S.*\\) \\{$").matcher(lines[i]);
            if (begin.matches()) {
                int end = i;
                while (end < lines.length && !lines[end].equals(begin.group(1) + "}")) {
                    end++;
                }
                no("a method of more than sixty lines: " + lines[i].strip(), end - i >= 60);
            }
        }
    }
}
