import java.util.ArrayDeque;
import java.util.ArrayList;
import java.util.Arrays;
import java.util.Deque;
import java.util.List;
import java.util.function.IntPredicate;
import java.util.stream.IntStream;

/**
 * The document once more, written in another way: every state is a value that is copied,
 * and all that is foretold is found by trying all there is. The class is held against it.
 */
final class Model {
    static final int NONE = Due.NONE, BAD = Due.BAD, STATE = Due.STATE, FULL = Due.FULL;

    record One(char sort, int rope, int place, int goods, int buyers, int girls, boolean off) {
        One goods(int g) { return new One(sort, rope, place, g, buyers, girls, off); }
        One buyers(int n) { return new One(sort, rope, place, goods, n, girls, off); }
        One girls(int n) { return new One(sort, rope, place, goods, buyers, n, off); }
        One place(int p) { return new One(sort, rope, p, goods, buyers, girls, off); }
        One off(boolean o) { return new One(sort, rope, place, goods, buyers, girls, o); }

        int kind() { return "tjbnv".indexOf(sort) + 1; }

        int weight() {
            int w = girls;
            if (!off) {
                w += switch (sort) { case 't', 'n' -> goods; case 'j' -> goods / 2; case 'b' -> goods + goods; default -> -goods; };
            }
            return sort == 'n' || sort == 'v' ? w : w + buyers;
        }
    }

    record State(int low, int slack, List<Integer> taut, List<One> ones) {
        State with(int i, One o) {
            List<One> l = new ArrayList<>(ones);
            l.set(i, o);
            return new State(low, slack, taut, List.copyOf(l));
        }
        State taut(int r, int t) {
            List<Integer> l = new ArrayList<>(taut);
            l.set(r, t);
            return new State(low, slack, List.copyOf(l), ones);
        }
        State slack(int s) { return new State(low, s, taut, ones); }

        int sag(int r, int x) {
            int sum = 0;
            for (One o : ones) {
                if (o.rope == r) {
                    sum += o.weight() * (x <= o.place ? x * (9 - o.place) : o.place * (9 - x));
                }
            }
            int sign = sum < 0 ? -1 : 1;
            return sign * Math.floorDiv(sum * sign, taut.get(r)) + slack;
        }
        int depth(int r, int x) {
            int near = 0;
            if (r > 0) near += sag(r - 1, x);
            if (r + 1 < taut.size()) near += sag(r + 1, x);
            int fourth = near >= 0 ? near >> 2 : -(-near >> 2);
            return sag(r, x) - fourth;
        }
        int depth(int i) { return depth(ones.get(i).rope, ones.get(i).place); }
        int price(int i) {
            int d = depth(i);
            int by5 = d >= 0 ? Math.floorDiv(d, 5) : -Math.floorDiv(-d, 5);
            return Math.max(0, ones.get(i).goods - by5);
        }
        int drops() { return bits(ones.size(), i -> depth(i) > low); }
        int who(int r, int x) {
            for (int i = 0; i < ones.size(); i++) if (ones.get(i).rope == r && ones.get(i).place == x) return i;
            return NONE;
        }
        boolean way(int a, int b) {
            One p = ones.get(a), q = ones.get(b);
            return p.place == q.place && (p.rope == q.rope + 1 || q.rope == p.rope + 1);
        }
        boolean meets(int a, int b) {
            int d = depth(a) - depth(b);
            return way(a, b) && d >= -1 && d <= 1;
        }
        int ways(boolean meet) {
            int n = 0;
            for (int a = 0; a < ones.size(); a++)
                for (int b = a + 1; b < ones.size(); b++) if (meet ? meets(a, b) : way(a, b)) n++;
            return n;
        }
        int[] depths() { return IntStream.range(0, ones.size()).map(this::depth).toArray(); }
        boolean free(int i, int x) { return who(ones.get(i).rope, x) == NONE; }
        State slid(int i, int x) { return with(i, ones.get(i).place(x)); }
    }

    static int bits(int n, IntPredicate p) {
        int bits = 0;
        for (int i = 0; i < n; i++) if (p.test(i)) bits |= 1 << i;
        return bits;
    }

    private final int[][] rows = new int[8][];
    private final int[] lanes = new int[8];
    private final List<Integer> tape = new ArrayList<>();
    private final State[] images = new State[2];
    private final Deque<State> past = new ArrayDeque<>();
    private State now = null;
    private int fault = 0;
    private int status = 0;
    private List<Integer> trace = new ArrayList<>();

    private boolean stall(int i) { return now != null && i >= 0 && i < now.ones.size(); }
    private boolean rope(int r) { return now != null && r >= 0 && r < now.taut.size(); }
    private boolean rowThere(int r) { return r >= 0 && r < 8; }
    private static boolean in(int v, int least, int most) { return v >= least && v <= most; }
    private int found(int n) { status = n; return -1000010 - n; }
    private int fine(int answer) { status = 0; return answer; }

    private void act(State next) {
        past.addLast(now);
        if (past.size() > 24) past.removeFirst();
        now = next;
    }

    /** The answer to a call of the class, told by its name. */
    int call(String name, int... v) {
        return switch (name) {
            case "row", "set", "copy", "drop" -> callRows(name, v);
            case "feed" -> !in(v[0], 0, 255) ? BAD : tape.size() == 100 ? FULL : fed(v[0]);
            case "market" -> market();
            case "fault" -> fault;
            case "undo" -> {
                if (past.isEmpty()) yield STATE;
                now = past.removeLast();
                yield past.size();
            }
            case "buyers", "girl", "slide", "unload", "rain", "cut" -> callActs(name, v);
            case "stall", "rope", "drops", "walkway", "walkways" -> callLooks(name, v);
            case "even", "bestSlide", "unloaded", "holds", "falls", "dearest", "rented", "wind" -> callForetold(name, v);
            case "whoCut", "box", "reads" -> callTold(name, v);
            case "image", "restore" -> callImages(name, v[0]);
            default -> callAsked(name, v);
        };
    }

    private int fed(int b) {
        tape.add(b);
        return tape.size();
    }

    private int callRows(String name, int[] v) {
        switch (name) {
            case "row":
                if (!rowThere(v[0]) || !in(v[1], 0, 2) || v[2] > 40) return BAD;
                if (v[2] < 0) return found(4);
                rows[v[0]] = new int[v[2]];
                lanes[v[0]] = v[1];
                return fine(v[2]);
            case "set":
                if (!rowThere(v[0])) return BAD;
                if (rows[v[0]] == null) return found(1);
                if (!in(v[1], 0, rows[v[0]].length - 1)) return found(2);
                int shift = new int[] {24, 16, 0}[lanes[v[0]]];
                return fine(rows[v[0]][v[1]] = v[2] << shift >> shift);
            case "copy":
                if (!rowThere(v[0]) || !rowThere(v[2])) return BAD;
                int[] from = rows[v[0]], to = rows[v[2]];
                if (from == null || to == null) return found(1);
                if (lanes[v[0]] != lanes[v[2]]) return found(5);
                if (v[1] < 0 || v[3] < 0 || v[4] < 0) return found(2);
                if ((long) v[1] + v[4] > from.length || (long) v[3] + v[4] > to.length) return found(2);
                int[] were = from.clone();
                for (int i = 0; i < v[4]; i++) to[v[3] + i] = were[v[1] + i];
                return fine(v[4]);
            default:
                if (!rowThere(v[0])) return BAD;
                if (rows[v[0]] == null) return found(1);
                int had = rows[v[0]].length;
                rows[v[0]] = null;
                return fine(had);
        }
    }

    // ---- the text: first cut into TOKENS {what, value, place}, then held against the form

    private record Token(char what, int value, int at) { }

    private static final class Fault extends RuntimeException {
        private static final long serialVersionUID = 1L;
        final int number, at;
        Fault(int number, int at) {
            this.number = number;
            this.at = at;
        }
    }

    private List<Token> tokens() {
        List<Token> all = new ArrayList<>();
        int i = 0;
        while (i < tape.size()) {
            int c = tape.get(i);
            if (c >= '0' && c <= '9') {
                int end = i;
                StringBuilder figures = new StringBuilder();
                while (end < tape.size() && tape.get(end) >= '0' && tape.get(end) <= '9') figures.append((char) (int) tape.get(end++));
                all.add(figures.length() > 2 ? new Token('?', 0, i) : new Token('0', Integer.parseInt(figures.toString()), i));
                i = end;
            } else {
                boolean known = c >= 'a' && c <= 'z' || c == ',' || c == ';';
                all.add(new Token(known ? (char) c : '?', 0, i));
                i++;
            }
        }
        all.add(new Token('$', 0, tape.size()));
        return all;
    }

    private int market() {
        try {
            now = parsed(new ArrayDeque<>(tokens()));
            past.clear();
            return now.ones.size();
        } catch (Fault f) {
            fault = f.number;
            return -1000100 - f.at;
        } finally {
            tape.clear();
        }
    }

    private static void sign(Deque<Token> left, char what) {
        Token t = left.removeFirst();
        if (t.what != what) throw new Fault(1, t.at);
    }

    private static int number(Deque<Token> left, IntPredicate asTold) {
        Token t = left.removeFirst();
        if (t.what != '0') throw new Fault(1, t.at);
        if (!asTold.test(t.value)) throw new Fault(2, t.at);
        return t.value;
    }

    private static State parsed(Deque<Token> left) {
        sign(left, 'm');
        int low = number(left, n -> n <= 99);
        sign(left, ',');
        int slack = number(left, n -> n <= 20);
        sign(left, ';');
        List<Integer> taut = new ArrayList<>();
        List<One> ones = new ArrayList<>();
        do {
            if (taut.size() == 3) throw new Fault(3, left.getFirst().at);
            sign(left, 'l');
            taut.add(number(left, n -> n >= 1 && n <= 20));
            sign(left, ';');
        } while (left.getFirst().what == 'l');
        while (left.getFirst().what != '$') {
            Token sort = left.removeFirst();
            if (!List.of('t', 'j', 'b', 'n', 'v').contains(sort.what)) throw new Fault(1, sort.at);
            if (ones.size() == 6) throw new Fault(3, sort.at);
            int rope = number(left, n -> n < taut.size());
            sign(left, ',');
            int place = number(left, n -> n >= 1 && n <= 8 && ones.stream().noneMatch(o -> o.rope == rope && o.place == n));
            sign(left, ',');
            int goods = number(left, n -> n <= 20);
            sign(left, ';');
            ones.add(new One(sort.what, rope, place, goods, 0, 0, false));
        }
        return new State(low, slack, List.copyOf(taut), List.copyOf(ones));
    }

    // ---- what is done, and looked at

    private int callActs(String name, int[] v) {
        if (name.equals("rain")) {
            if (now == null) return STATE;
            if (now.slack == 99) return FULL;
            act(now.slack(now.slack + 1));
            return now.slack;
        }
        if (name.equals("cut")) {
            if (!rope(v[0])) return BAD;
            if (now.taut.get(v[0]) == 1) return STATE;
            act(now.taut(v[0], now.taut.get(v[0]) - 1));
            return now.taut.get(v[0]);
        }
        if (!stall(v[0])) return BAD;
        One one = now.ones.get(v[0]);
        switch (name) {
            case "buyers":
                if (!in(v[1], 0, 20)) return BAD;
                act(now.with(v[0], one.buyers(v[1])));
                return one.buyers;
            case "girl":
                if (v[1] * (long) v[1] != 1) return BAD;
                if (one.girls + v[1] < 0) return STATE;
                if (one.girls + v[1] > 9) return FULL;
                act(now.with(v[0], one.girls(one.girls + v[1])));
                return one.girls + v[1];
            case "slide":
                if (!in(v[1], 1, 8)) return BAD;
                if (!now.free(v[0], v[1])) return STATE;
                act(now.slid(v[0], v[1]));
                return one.place;
            default:
                if (!in(v[1], 0, 1)) return BAD;
                if (one.off == (v[1] == 1)) return STATE;
                act(now.with(v[0], one.off(v[1] == 1)));
                return now.ones.get(v[0]).weight();
        }
    }

    private int callLooks(String name, int[] v) {
        switch (name) {
            case "stall":
                if (!stall(v[0]) || !in(v[1], 0, 8)) return BAD;
                One o = now.ones.get(v[0]);
                return new int[] {o.rope, o.place, o.goods, o.buyers, o.girls, o.off ? 1 : 0, o.weight(), now.depth(v[0]), now.price(v[0])}[v[1]];
            case "rope":
                if (!rope(v[0]) || !in(v[1], 1, 8) || !in(v[2], 0, 3)) return BAD;
                return new int[] {now.sag(v[0], v[1]), now.depth(v[0], v[1]), now.taut.get(v[0]), now.who(v[0], v[1])}[v[2]];
            case "drops":
                return now == null ? STATE : now.drops();
            case "walkway":
                if (!stall(v[0]) || !stall(v[1]) || v[0] == v[1]) return BAD;
                return now.meets(v[0], v[1]) ? 2 : now.way(v[0], v[1]) ? 1 : 0;
            default:
                if (now == null) return STATE;
                return in(v[0], 0, 1) ? now.ways(v[0] == 1) : BAD;
        }
    }

    // ---- what is foretold

    private int callForetold(String name, int[] v) {
        switch (name) {
            case "even":
                if (!stall(v[0]) || !stall(v[1]) || v[0] == v[1] || !in(v[2], 0, 1)) return BAD;
                return now.way(v[0], v[1]) ? even(v[0], v[1], v[2]) : STATE;
            case "bestSlide":
                if (now == null) return STATE;
                return in(v[0], 0, 1) ? bestSlide(v[0]) : BAD;
            case "unloaded":
                if (now == null) return STATE;
                return in(v[0], -1, 5) ? unloaded(v[0]) : BAD;
            case "holds":
                if (!rope(v[0])) return BAD;
                return IntStream.rangeClosed(1, 40).filter(t -> now.taut(v[0], t).drops() == 0).findFirst().orElse(NONE);
            case "falls":
                if (now == null) return STATE;
                if (!in(v[0], 0, 1)) return BAD;
                int rains = IntStream.rangeClosed(0, 99).filter(n -> now.slack(now.slack + n).drops() != 0).findFirst().orElse(NONE);
                if (rains == NONE || v[0] == 0) return rains;
                return Integer.numberOfTrailingZeros(now.slack(now.slack + rains).drops());
            case "dearest":
                if (!stall(v[0])) return BAD;
                return IntStream.rangeClosed(1, 8).filter(x -> mayStand(v[0], x)).boxed()
                    .max((x, y) -> {
                        int p = now.slid(v[0], x).price(v[0]), q = now.slid(v[0], y).price(v[0]);
                        return p != q ? Integer.compare(p, q) : Integer.compare(y, x);
                    }).orElseThrow();
            case "rented":
                if (!stall(v[0]) || !stall(v[1]) || !stall(v[2]) || v[1] == v[2]) return BAD;
                char sort = now.ones.get(v[0]).sort;
                if (sort != 'n' && sort != 'v' || v[0] == v[1] || v[0] == v[2] || !now.way(v[1], v[2])) return STATE;
                return bits(8, i -> mayStand(v[0], i + 1) && now.slid(v[0], i + 1).meets(v[1], v[2]));
            default:
                if (now == null) return STATE;
                if (!in(v[0], 0, 40) || !in(v[1], 1, 999999) || v[2] != -1 && !rope(v[2])) return BAD;
                return wind(v[0], v[1], v[2]);
        }
    }

    private boolean mayStand(int i, int x) {
        return now.ones.get(i).place == x || now.free(i, x);
    }

    private int even(int a, int b, int what) {
        int fewest = NONE, atA = NONE;
        for (int p = 0; p <= 9; p++) {
            for (int q = 0; q <= 9; q++) {
                State s = now.with(a, now.ones.get(a).girls(now.ones.get(a).girls + p));
                s = s.with(b, s.ones.get(b).girls(s.ones.get(b).girls + q));
                if (s.meets(a, b) && (fewest == NONE || p + q < fewest || p + q == fewest && p < atA)) {
                    fewest = p + q;
                    atA = p;
                }
            }
        }
        return what == 0 ? fewest : atA;
    }

    private int bestSlide(int what) {
        int best = NONE, most = NONE;
        for (int i = now.ones.size() - 1; i >= 0; i--) {
            for (int x = 8; x >= 1; x--) {
                if (now.free(i, x) && now.slid(i, x).ways(true) >= most) {
                    most = now.slid(i, x).ways(true);
                    best = 9 * i + x;
                }
            }
        }
        return what == 0 ? best : most;
    }

    private int unloaded(int k) {
        List<List<Integer>> orders = new ArrayList<>();
        collect(now, new ArrayList<>(), orders);
        if (k == -1) return orders.size();
        return orders.isEmpty() || k >= orders.get(0).size() ? NONE : orders.get(0).get(k);
    }

    private static void collect(State s, List<Integer> done, List<List<Integer>> orders) {
        if (s.drops() != 0) return;
        boolean left = false;
        for (int i = 0; i < s.ones.size(); i++) {
            if (s.ones.get(i).off) continue;
            left = true;
            List<Integer> then = new ArrayList<>(done);
            then.add(i);
            collect(s.with(i, s.ones.get(i).off(true)), then, orders);
        }
        if (!left) orders.add(done);
    }

    private int wind(int n, int seed, int rope) {
        State s = now;
        long x = seed;
        int calm = 0;
        for (int hour = 0; hour < n; hour++) {
            for (int r = 0; r < s.taut.size(); r++) {
                x = Math.floorMod(x * 16807L, 2147483647L);
                if (x % 20 == 0) s = s.taut(r, Math.max(1, s.taut.get(r) - 1));
            }
            if (s.drops() == 0) calm++;
        }
        return rope == -1 ? calm : s.taut.get(rope);
    }

    private int callTold(String name, int[] v) {
        switch (name) {
            case "whoCut":
                if (now == null) return STATE;
                if (!rowThere(v[0])) return BAD;
                if (noDepths(v[0], v[1])) return found(rows[v[0]] == null ? 1 : 2);
                int[] told = depthsTold(v[0], v[1]);
                return fine(bits(now.taut.size(), r -> now.taut.get(r) > 1
                    && Arrays.equals(told, now.taut(r, now.taut.get(r) - 1).depths())));
            case "box":
                if (!stall(v[0]) || !in(v[1], -9999, 9999) || !in(v[2], 0, 1)) return BAD;
                IntStream fit = IntStream.rangeClosed(0, 20).filter(g -> now.with(v[0], now.ones.get(v[0]).goods(g)).depth(v[0]) == v[1]);
                return (v[2] == 0 ? fit.min() : fit.max()).orElse(NONE);
            default:
                if (!stall(v[0]) || !stall(v[1]) || v[0] == v[1] || !rowThere(v[2]) || !in(v[4], 0, 1)) return BAD;
                if (noDepths(v[2], v[3])) return found(rows[v[2]] == null ? 1 : 2);
                int[] due = depthsTold(v[2], v[3]);
                int[] ways = IntStream.range(0, 441).filter(w -> Arrays.equals(due, now
                    .with(v[0], now.ones.get(v[0]).goods(w / 21))
                    .with(v[1], now.ones.get(v[1]).goods(w % 21)).depths())).toArray();
                return fine(v[4] == 0 ? ways.length : ways.length == 0 ? NONE : ways[0]);
        }
    }

    private boolean noDepths(int row, int i) {
        return rows[row] == null || i < 0 || (long) i + now.ones.size() > rows[row].length;
    }

    private int[] depthsTold(int row, int i) {
        return Arrays.copyOfRange(rows[row], i, i + now.ones.size());
    }

    private int callImages(String name, int k) {
        if (!in(k, 0, 1)) return BAD;
        if (name.equals("image")) {
            if (now == null) return STATE;
            images[k] = now;
            return 1;
        }
        if (images[k] == null) return STATE;
        now = images[k];
        past.clear();
        return 1;
    }

    // ---- what is asked

    private static final int[] PARENT = {-1, 0, 1, 1, 0, 4};

    private int callAsked(String name, int[] v) {
        switch (name) {
            case "kind":
                return stall(v[0]) ? now.ones.get(v[0]).kind() : BAD;
            case "as":
                if (!stall(v[0]) || !in(v[1], 0, 5)) return BAD;
                for (int k = now.ones.get(v[0]).kind(); k >= 0; k = PARENT[k]) if (k == v[1]) return fine(v[0]);
                return found(3);
            case "ask":
                if (!stall(v[0]) || !in(v[1], 0, 1)) return BAD;
                trace = new ArrayList<>();
                return asked(v[0], v[1]);
            case "trace":
                return in(v[0], 0, Math.min(trace.size(), 16) - 1) ? trace.get(v[0]) : NONE;
            case "count":
                State s = now == null ? new State(0, 0, List.of(), List.of()) : now;
                int there = (int) Arrays.stream(rows).filter(r -> r != null).count();
                int[] counts = {there, s.taut.size(), s.ones.size(), s.low, s.slack, past.size(), tape.size()};
                return in(v[0], 0, 6) ? counts[v[0]] : BAD;
            case "status":
                return status;
            default:
                throw new IllegalArgumentException(name);
        }
    }

    /** Which BODY begins, by KIND from 1 on. */
    private static final int[] SIZE_OF = {0, 11, 12, 11, 13, 14}, MARK_OF = {0, 21, 24, 22, 23, 23};

    private int asked(int one, int what) {
        return body(one, (what == 0 ? SIZE_OF : MARK_OF)[now.ones.get(one).kind()]);
    }

    private int body(int one, int number) {
        trace.add(number);
        switch (number) {
            case 10: return now.ones.get(one).goods;
            case 11: { int g = body(one, 10); return g + asked(one, 1); }
            case 12: return -body(one, 11);
            case 13: return body(one, 10) - 100;
            case 14: return body(one, 13) * 2;
            case 20: return one;
            case 21: return body(one, 20) + now.ones.get(one).weight();
            case 22: return body(one, 21) - 1000;
            case 23: { int n = body(one, 20); return n - asked(one, 0); }
            default: return body(one, 21) * 2;
        }
    }
}
