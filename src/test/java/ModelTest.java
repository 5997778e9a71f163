import java.lang.reflect.InvocationTargetException;
import java.lang.reflect.Method;
import java.lang.reflect.Modifier;
import java.util.ArrayList;
import java.util.Arrays;
import java.util.Comparator;
import java.util.List;
import java.util.Map;
import java.util.Random;
import java.util.TreeMap;

/** Long runs of calls, drawn by fixed seeds, each answer held against the model; no call may throw. */
public final class ModelTest {
    private static final int RUNS = 3000, CALLS = 512;
    private static final int[] ODD = {-1, -2, 6, 7, 8, 9, 20, 21, 40, 41, 100, 255, 256, 1000000, Integer.MAX_VALUE, Integer.MIN_VALUE};

    private static final Method[] CALLABLE = Arrays.stream(HungStalls.class.getDeclaredMethods())
        .filter(m -> Modifier.isPublic(m.getModifiers())).sorted(Comparator.comparing(Method::getName)).toArray(Method[]::new);
    private static final Map<String, Method> BY_NAME = new TreeMap<>();
    private static final Map<String, Integer> REAL_ANSWERS = new TreeMap<>();

    private final Random random;
    private final Due due;
    private final int run;
    private final HungStalls real = new HungStalls();
    private final Model model = new Model();
    private int calls = 0;

    private ModelTest(int run, Due due) {
        this.run = run;
        this.due = due;
        this.random = new Random(run);
    }

    public static void main(String[] args) {
        for (Method m : CALLABLE) {
            BY_NAME.put(m.getName(), m);
        }
        Due due = new Due();
        for (int run = 0; run < RUNS && due.wrong() == 0; run++) {
            new ModelTest(run, due).go();
        }
        for (Method m : CALLABLE) {
            int seen = REAL_ANSWERS.getOrDefault(m.getName(), 0);
            if (seen < 500) {
                due.is("answers of " + m.getName() + " that are no refusals, of 500", seen, 500);
            }
        }
        due.end();
    }

    private void go() {
        if (random.nextInt(4) != 0) {
            tell();
        }
        while (calls < CALLS - 200) {
            step();
        }
        lookAtAll();
    }

    private int call(String name, int... v) {
        calls++;
        int want = model.call(name, v);
        int got;
        try {
            got = (Integer) BY_NAME.get(name).invoke(real, Arrays.stream(v).boxed().toArray());
        } catch (InvocationTargetException | IllegalAccessException e) {
            throw new IllegalStateException("run " + run + " call " + calls + ": " + name + Arrays.toString(v), e);
        }
        due.is("run " + run + " call " + calls + ": " + name + Arrays.toString(v), got, want);
        if (got > Due.NONE) {
            REAL_ANSWERS.merge(name, 1, Integer::sum);
        }
        return got;
    }

    private void step() {
        int dice = random.nextInt(100);
        if (dice < 3) {
            tell();
        } else if (dice < 9) {
            cutAndAsk();
        } else if (dice < 13) {
            readBack();
        } else if (dice < 17) {
            boxByDepth();
        } else if (dice < 22) {
            walk();
        } else if (dice < 26) {
            askOne();
        } else if (dice < 48) {
            act();
        } else {
            Method m = CALLABLE[random.nextInt(CALLABLE.length)];
            int[] v = new int[m.getParameterCount()];
            for (int i = 0; i < v.length; i++) {
                v[i] = value(m.getName(), i);
            }
            call(m.getName(), v);
        }
    }

    private void act() {
        int stall = random.nextInt(6);
        switch (random.nextInt(7)) {
            case 0: call("buyers", stall, random.nextInt(21)); break;
            case 1: call("girl", stall, random.nextInt(3) == 0 ? -1 : 1); break;
            case 2: call("slide", stall, 1 + random.nextInt(8)); break;
            case 3: call("unload", stall, random.nextInt(2)); break;
            case 4: call("rain"); break;
            case 5: call("cut", random.nextInt(3)); break;
            default: call("undo"); break;
        }
    }

    /** A number that is mostly as told for that place of a call, now and then at an edge, or far off. */
    private int value(String name, int i) {
        if (random.nextInt(12) == 0) {
            return ODD[random.nextInt(ODD.length)];
        }
        switch (name) {
            case "feed": return random.nextInt(256);
            case "set": return i == 2 ? random.nextInt() >> random.nextInt(32) : random.nextInt(i == 0 ? 3 : 12);
            case "row": return i == 2 ? random.nextInt(42) : random.nextInt(3);
            case "copy": return random.nextInt(i == 0 || i == 2 ? 3 : 14);
            case "wind": return i == 0 ? random.nextInt(41) : i == 1 ? 1 + random.nextInt(999999) : random.nextInt(4) - 1;
            case "slide", "rope": return i == 1 ? 1 + random.nextInt(8) : random.nextInt(4);
            case "girl": return i == 1 ? random.nextInt(3) - 1 : random.nextInt(6);
            case "buyers": return i == 1 ? random.nextInt(21) : random.nextInt(6);
            case "box": return i == 1 ? random.nextInt(80) - 20 : random.nextInt(i == 0 ? 6 : 2);
            case "reads": return random.nextInt(i == 4 ? 2 : i == 2 ? 3 : 6);
            case "even", "bestSlide", "falls", "ask", "unload", "walkways": return i == 0 && name.length() < 7 ? random.nextInt(6) : random.nextInt(2);
            case "image", "restore": return random.nextInt(2);
            case "stall": return random.nextInt(i == 0 ? 6 : 9);
            case "count": return random.nextInt(7);
            case "unloaded": return random.nextInt(7) - 1;
            default: return random.nextInt(6);
        }
    }

    // ---- texts

    private void tell() {
        List<Integer> bytes = new ArrayList<>();
        for (char c : text().toCharArray()) {
            bytes.add((int) c);
        }
        for (int n = random.nextInt(5) == 0 ? 1 + random.nextInt(2) : 0; n > 0; n--) {
            spoil(bytes);
        }
        if (bytes.size() + calls > CALLS - 201) {
            return;
        }
        for (int b : bytes) {
            call("feed", b);
        }
        call("market");
        call("fault");
    }

    private String text() {
        int ropes = 1 + random.nextInt(3);
        int stalls = random.nextInt(7);
        int mood = random.nextInt(3);
        StringBuilder text = new StringBuilder("m" + (mood == 0 ? random.nextInt(100) : 20 + random.nextInt(30)) + "," + random.nextInt(mood == 0 ? 21 : 5) + ";");
        for (int i = 0; i < ropes; i++) {
            text.append("l").append(mood == 1 ? 15 + random.nextInt(6) : 1 + random.nextInt(20)).append(";");
        }
        boolean[][] taken = new boolean[ropes][9];
        int few = 1 + random.nextInt(8);
        for (int i = 0; i < stalls; i++) {
            int rope = random.nextInt(ropes);
            int place = 1 + random.nextInt(few);
            while (taken[rope][place] && random.nextInt(40) != 0) {
                place = 1 + random.nextInt(8);
            }
            taken[rope][place] = true;
            text.append("tjbnv".charAt(random.nextInt(5))).append(rope).append(",").append(place).append(",").append(random.nextInt(mood == 1 ? 10 : 21)).append(";");
        }
        return text.toString();
    }

    private void spoil(List<Integer> bytes) {
        String likely = "mltjbnvqz0123456789,;: M";
        int one = random.nextInt(4) == 0 ? random.nextInt(256) : likely.charAt(random.nextInt(likely.length()));
        int at = random.nextInt(bytes.size() + 1);
        switch (random.nextInt(4)) {
            case 0: bytes.add(at, one); break;
            case 1: if (at < bytes.size()) bytes.set(at, one); break;
            case 2: if (at < bytes.size()) bytes.remove(at); break;
            default: bytes.subList(at, bytes.size()).clear(); break;
        }
    }

    // ---- rows that tell depths

    private void tellDepths(int row, int from, int stalls, boolean spoilt) {
        call("row", row, 1 + random.nextInt(2), from + stalls + random.nextInt(3));
        for (int i = 0; i < stalls; i++) {
            call("set", row, from + i, call("stall", i, 7));
        }
        if (spoilt && stalls > 0) {
            int i = random.nextInt(stalls);
            call("set", row, from + i, call("stall", i, 7) + random.nextInt(3) - 1);
        }
    }

    private void cutAndAsk() {
        int stalls = call("count", 2);
        if (calls + 30 > CALLS - 200) {
            return;
        }
        boolean done = call("cut", random.nextInt(3)) > 0;
        int row = random.nextInt(3);
        int from = random.nextInt(3);
        tellDepths(row, from, stalls, random.nextInt(5) == 0);
        if (done) {
            call("undo");
        }
        call("whoCut", row, from);
        call("status");
    }

    private void readBack() {
        int stalls = call("count", 2);
        if (calls + 40 > CALLS - 200) {
            return;
        }
        int row = random.nextInt(3);
        int from = random.nextInt(3);
        tellDepths(row, from, stalls, random.nextInt(5) == 0);
        int a = random.nextInt(6);
        int b = random.nextInt(6);
        call("reads", a, b, row, from, 0);
        call("reads", a, b, row, from, 1);
        call("status");
    }

    private void boxByDepth() {
        int stall = random.nextInt(6);
        int depth = call("stall", stall, 7);
        call("box", stall, depth + (random.nextInt(4) == 0 ? random.nextInt(5) - 2 : 0), 0);
        call("box", stall, depth, 1);
    }

    /** Calls of two STALLS that have a WALKWAY, if there are such. */
    private void walk() {
        int from = random.nextInt(36);
        for (int i = 0; i < 36; i++) {
            int a = (from + i) % 36 / 6;
            int b = (from + i) % 6;
            if (model.call("walkway", a, b) > 0) {
                call("walkway", a, b);
                call("even", a, b, 0);
                call("even", a, b, 1);
                for (int notary = 0; notary < 6; notary++) {
                    call("rented", notary, a, b);
                }
                return;
            }
        }
    }

    private void askOne() {
        int one = random.nextInt(6);
        call("ask", one, random.nextInt(2));
        for (int i = 0; i < 7; i++) {
            call("trace", i);
        }
        call("as", one, random.nextInt(6));
        call("status");
        call("kind", one);
    }

    private void lookAtAll() {
        for (int i = 0; i < 6; i++) {
            for (int what = 0; what < 9; what++) {
                call("stall", i, what);
            }
        }
        for (int rope = 0; rope < 3; rope++) {
            for (int place = 1; place <= 8; place++) {
                call("rope", rope, place, random.nextInt(4));
            }
        }
        for (int what = 0; what < 7; what++) {
            call("count", what);
        }
        for (int row = 0; row < 3; row++) {
            for (int i = 0; i < 12; i++) {
                call("copy", row, i, row, 0, 1);
            }
            call("drop", row);
        }
        call("status");
        while (call("undo") >= 0) {
            call("drops");
        }
    }
}
