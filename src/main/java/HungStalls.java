import java.util.Arrays;

/** A market of stalls that hang on ropes over a gorge. The document's words in capitals are used as it means them. */
public final class HungStalls {
    public static final int NONE = -1000000, BAD = -1000001, STATE = -1000002, FULL = -1000003;

    private static final int FOUND = -1000010, FAULTY = -1000100;
    private static final int NULL = 1, PLACE = 2, KIND = 3, SIZE = 4, STORE = 5;

    private static final int MOST_ROWS = 8, MOST_ITEMS = 40, MOST_BYTES = 100;
    private static final int MOST_ROPES = 3, MOST_STALLS = 6, MOST_PLACES = 8;
    private static final int MOST_BUYERS = 20, MOST_GIRLS = 9, MOST_GOODS = 20, MOST_SLACK = 99;
    private static final int MOST_ACTS = 24, MOST_IMAGES = 2, MOST_TRACE = 16;

    private static final int STALL = 0, TABLE = 1, JEWELLER = 2, BUTCHER = 3, NOTARY = 4, VULTURE = 5;

    // what an ACT changes
    private static final int OF_BUYERS = 0, OF_GIRLS = 1, OF_PLACE = 2, OF_WARES = 3, OF_SLACK = 4, OF_TAUT = 5;

    private final Row[] rows = new Row[MOST_ROWS];
    private final Tape tape = new Tape();
    private final Trace trace = new Trace();
    private final Market[] images = new Market[MOST_IMAGES];
    // one count of orders for each set of STALLS, kept here so that no call has to make it
    private final int[] orders = new int[1 << MOST_STALLS];
    private final int[] actWhat = new int[MOST_ACTS];
    private final int[] actOne = new int[MOST_ACTS];
    private final int[] actBefore = new int[MOST_ACTS];
    private int acts = 0;
    // without ROPES it stands for no MARKET: one that is read has a ROPE at least
    private Market market = new Market(0, 0);
    private int latestFault = 0;
    private int latestFinding = 0;

    public HungStalls() {
        for (int i = 0; i < rows.length; i++) {
            rows[i] = new Row();
        }
    }

    // ---- rows

    public int row(int row, int lane, int n) {
        Row one = rowAt(row);
        if (one == null || lane < Row.BYTES || lane > Row.INTS || n > MOST_ITEMS) {
            return BAD;
        }
        if (n < 0) {
            return found(SIZE);
        }
        one.begin(lane, n);
        return unfound(n);
    }

    public int set(int row, int i, int v) {
        Row one = rowAt(row);
        if (one == null) {
            return BAD;
        }
        if (one.isMissing()) {
            return found(NULL);
        }
        if (!one.has(i, 1)) {
            return found(PLACE);
        }
        one.items[i] = one.cutToLane(v);
        return unfound(one.items[i]);
    }

    public int copy(int a, int i, int b, int j, int n) {
        Row from = rowAt(a);
        Row to = rowAt(b);
        if (from == null || to == null) {
            return BAD;
        }
        if (from.isMissing() || to.isMissing()) {
            return found(NULL);
        }
        if (from.lane != to.lane) {
            return found(STORE);
        }
        if (!from.has(i, n) || !to.has(j, n)) {
            return found(PLACE);
        }
        System.arraycopy(from.items, i, to.items, j, n);
        return unfound(n);
    }

    public int drop(int row) {
        Row one = rowAt(row);
        if (one == null) {
            return BAD;
        }
        if (one.isMissing()) {
            return found(NULL);
        }
        one.lane = Row.MISSING;
        return unfound(one.size);
    }

    // ---- what is told

    public int feed(int letter) {
        if (letter < 0 || letter > 255) {
            return BAD;
        }
        if (tape.length >= MOST_BYTES) {
            return FULL;
        }
        tape.bytes[tape.length] = letter;
        tape.length++;
        return tape.length;
    }

    public int market() {
        Market told = tape.read();
        tape.length = 0;
        if (told == null) {
            latestFault = tape.fault;
            return FAULTY - tape.faultPlace;
        }
        market = told;
        acts = 0;
        return told.count;
    }

    public int fault() {
        return latestFault;
    }

    public int undo() {
        if (acts < 1 || acts > MOST_ACTS) {
            return STATE;
        }
        acts--;
        market.put(actWhat[acts], actOne[acts], actBefore[acts]);
        return acts;
    }

    // ---- what is done

    public int buyers(int stall, int n) {
        Stall s = stallAt(stall);
        if (s == null || n < 0 || n > MOST_BUYERS) {
            return BAD;
        }
        int had = s.buyers;
        act(OF_BUYERS, stall, had, n);
        return had;
    }

    public int girl(int stall, int by) {
        Stall s = stallAt(stall);
        if (s == null || by != 1 && by != -1) {
            return BAD;
        }
        if (by == -1 && s.girls == 0) {
            return STATE;
        }
        if (by == 1 && s.girls >= MOST_GIRLS) {
            return FULL;
        }
        act(OF_GIRLS, stall, s.girls, s.girls + by);
        return s.girls;
    }

    public int slide(int stall, int place) {
        Stall s = stallAt(stall);
        if (s == null || noPlace(place)) {
            return BAD;
        }
        if (market.standing(s.rope, place) != null) {
            return STATE;
        }
        int ahead = s.place;
        act(OF_PLACE, stall, ahead, place);
        return ahead;
    }

    public int unload(int stall, int off) {
        Stall s = stallAt(stall);
        if (s == null || off != 0 && off != 1) {
            return BAD;
        }
        if (s.off == (off == 1)) {
            return STATE;
        }
        act(OF_WARES, stall, 1 - off, off);
        return s.weight();
    }

    public int rain() {
        if (noMarket()) {
            return STATE;
        }
        if (market.slack >= MOST_SLACK) {
            return FULL;
        }
        act(OF_SLACK, 0, market.slack, market.slack + 1);
        return market.slack;
    }

    public int cut(int rope) {
        if (noRope(rope)) {
            return BAD;
        }
        int taut = market.taut[rope];
        if (taut <= 1) {
            return STATE;
        }
        act(OF_TAUT, rope, taut, taut - 1);
        return taut - 1;
    }

    public int stall(int stall, int what) {
        Stall s = stallAt(stall);
        if (s == null) {
            return BAD;
        }
        switch (what) {
            case 0: return s.rope;
            case 1: return s.place;
            case 2: return s.goods;
            case 3: return s.buyers;
            case 4: return s.girls;
            case 5: return s.off ? 1 : 0;
            case 6: return s.weight();
            case 7: return market.depth(s.rope, s.place);
            case 8: return market.price(s);
            default: return BAD;
        }
    }

    public int rope(int rope, int place, int what) {
        if (noRope(rope) || noPlace(place)) {
            return BAD;
        }
        switch (what) {
            case 0: return market.sag(rope, place);
            case 1: return market.depth(rope, place);
            case 2: return market.taut[rope];
            case 3: return numberOf(market.standing(rope, place));
            default: return BAD;
        }
    }

    public int drops() {
        return noMarket() ? STATE : market.dropping();
    }

    // ---- foretold

    public int walkway(int a, int b) {
        Stall first = stallAt(a);
        Stall second = stallAt(b);
        if (first == null || second == null || a == b) {
            return BAD;
        }
        if (!market.joins(first, second)) {
            return 0;
        }
        return market.meets(first, second) ? 2 : 1;
    }

    public int walkways(int what) {
        if (noMarket()) {
            return STATE;
        }
        if (isNoBit(what)) {
            return BAD;
        }
        return market.countWalkways(what == 1);
    }

    public int even(int a, int b, int what) {
        Stall first = stallAt(a);
        Stall second = stallAt(b);
        if (first == null || second == null || a == b || isNoBit(what)) {
            return BAD;
        }
        if (!market.joins(first, second)) {
            return STATE;
        }
        return Foretold.fewestGirls(market, first, second, what);
    }

    public int bestSlide(int what) {
        if (noMarket()) {
            return STATE;
        }
        if (isNoBit(what)) {
            return BAD;
        }
        return Foretold.slideToMeet(market, what);
    }

    public int unloaded(int k) {
        if (noMarket()) {
            return STATE;
        }
        if (k < -1 || k >= MOST_STALLS) {
            return BAD;
        }
        int toTakeOff = Foretold.countOrders(market, orders);
        return k == -1 ? orders[0] : Foretold.inFirstOrder(orders, toTakeOff, k);
    }

    public int whoCut(int row, int i) {
        if (noMarket()) {
            return STATE;
        }
        Row told = rowAt(row);
        if (told == null) {
            return BAD;
        }
        if (told.isMissing()) {
            return found(NULL);
        }
        if (!told.has(i, market.count)) {
            return found(PLACE);
        }
        return unfound(Foretold.cutRopes(market, told, i));
    }

    public int box(int stall, int depth, int what) {
        Stall s = stallAt(stall);
        if (s == null || depth < -9999 || depth > 9999 || isNoBit(what)) {
            return BAD;
        }
        return Foretold.goodsInBox(market, s, depth, what);
    }

    public int reads(int a, int b, int row, int i, int what) {
        Stall first = stallAt(a);
        Stall second = stallAt(b);
        Row told = rowAt(row);
        if (first == null || second == null || a == b || told == null || isNoBit(what)) {
            return BAD;
        }
        if (told.isMissing()) {
            return found(NULL);
        }
        if (!told.has(i, market.count)) {
            return found(PLACE);
        }
        return unfound(Foretold.goodsRead(market, first, second, told, i, what));
    }

    public int holds(int rope) {
        return noRope(rope) ? BAD : Foretold.leastTaut(market, rope);
    }

    public int falls(int what) {
        if (noMarket()) {
            return STATE;
        }
        if (isNoBit(what)) {
            return BAD;
        }
        return Foretold.rainsToDrop(market, what);
    }

    public int dearest(int stall) {
        Stall s = stallAt(stall);
        return s == null ? BAD : Foretold.dearestPlace(market, s);
    }

    public int rented(int notary, int a, int b) {
        Stall he = stallAt(notary);
        Stall first = stallAt(a);
        Stall second = stallAt(b);
        if (he == null || first == null || second == null || a == b) {
            return BAD;
        }
        if (!isOfKind(he, NOTARY) || !market.joins(first, second) || notary == a || notary == b) {
            return STATE;
        }
        return Foretold.rentedPlaces(market, he, first, second);
    }

    public int wind(int n, int seed, int rope) {
        if (noMarket()) {
            return STATE;
        }
        if (n < 0 || n > 40 || seed < 1 || seed > 999999 || rope != -1 && noRope(rope)) {
            return BAD;
        }
        return Foretold.afterWind(market, n, seed, rope);
    }

    public int image(int k) {
        if (noImage(k)) {
            return BAD;
        }
        if (noMarket()) {
            return STATE;
        }
        images[k] = market.twin();
        return 1;
    }

    public int restore(int k) {
        if (noImage(k)) {
            return BAD;
        }
        Market kept = images[k];
        if (kept == null) {
            return STATE;
        }
        market = kept.twin();
        acts = 0;
        return 1;
    }

    // ---- asked

    public int kind(int one) {
        Stall s = stallAt(one);
        return s == null ? BAD : s.kindTold();
    }

    public int as(int one, int kind) {
        Stall s = stallAt(one);
        if (s == null || kind < STALL || kind > VULTURE) {
            return BAD;
        }
        return isOfKind(s, kind) ? unfound(one) : found(KIND);
    }

    public int ask(int one, int what) {
        Stall s = stallAt(one);
        if (s == null || isNoBit(what)) {
            return BAD;
        }
        trace.count = 0;
        return what == 0 ? s.size(trace) : s.mark(trace);
    }

    public int trace(int i) {
        return i < 0 || i >= trace.count || i >= MOST_TRACE ? NONE : trace.numbers[i];
    }

    public int count(int what) {
        switch (what) {
            case 0: return rowsThere();
            case 1: return market.ropes;
            case 2: return market.count;
            case 3: return market.low;
            case 4: return market.slack;
            case 5: return acts;
            case 6: return tape.length;
            default: return BAD;
        }
    }

    public int status() {
        return latestFinding;
    }

    // ---- helpers of the calls

    private int found(int finding) {
        latestFinding = finding;
        return FOUND - finding;
    }

    private int unfound(int answer) {
        latestFinding = 0;
        return answer;
    }

    private Row rowAt(int row) {
        return row < 0 || row >= rows.length ? null : rows[row];
    }

    private Stall stallAt(int stall) {
        return stall < 0 || stall >= MOST_STALLS ? null : market.stalls[stall];
    }

    private int rowsThere() {
        int there = 0;
        for (Row one : rows) {
            if (one != null && !one.isMissing()) {
                there++;
            }
        }
        return there;
    }

    private boolean noMarket() {
        return market.ropes == 0;
    }

    private boolean noRope(int rope) {
        return rope < 0 || rope >= market.ropes || rope >= MOST_ROPES;
    }

    private static boolean noPlace(int place) {
        return place < 1 || place > MOST_PLACES;
    }

    private static boolean noImage(int k) {
        return k < 0 || k >= MOST_IMAGES;
    }

    private static boolean isNoBit(int what) {
        return what != 0 && what != 1;
    }

    private static int numberOf(Stall s) {
        return s == null ? NONE : s.number;
    }

    private static boolean isOfKind(Stall s, int kind) {
        switch (kind) {
            case STALL: return true;
            case TABLE: return s instanceof Table;
            case JEWELLER: return s instanceof Jeweller;
            case BUTCHER: return s instanceof Butcher;
            case NOTARY: return s instanceof Notary;
            case VULTURE: return s instanceof Vulture;
            default: return false;
        }
    }

    /** An ACT: what it changes becomes now, and what it was before is kept, so that it can be undone. */
    private void act(int what, int one, int before, int now) {
        if (acts >= MOST_ACTS) {
            forgetOldestAct();
        }
        actWhat[acts] = what;
        actOne[acts] = one;
        actBefore[acts] = before;
        acts++;
        market.put(what, one, now);
    }

    private void forgetOldestAct() {
        acts = MOST_ACTS - 1;
        System.arraycopy(actWhat, 1, actWhat, 0, acts);
        System.arraycopy(actOne, 1, actOne, 0, acts);
        System.arraycopy(actBefore, 1, actBefore, 0, acts);
    }

    /** A ROW; it keeps its room while it is missing. */
    private static final class Row {
        static final int MISSING = -1, BYTES = 0, SHORTS = 1, INTS = 2;

        int lane = MISSING;
        int size = 0;
        final int[] items = new int[MOST_ITEMS];

        void begin(int newLane, int newSize) {
            lane = newLane;
            size = newSize;
            Arrays.fill(items, 0);
        }

        boolean isMissing() {
            return lane == MISSING;
        }

        /** Whether there are n ITEMS from i on; so written that no sum can run over. */
        boolean has(int i, int n) {
            return i >= 0 && n >= 0 && n <= size && i <= size - n;
        }

        int cutToLane(int v) {
            switch (lane) {
                case BYTES: return (byte) v;
                case SHORTS: return (short) v;
                default: return v;
            }
        }
    }

    /** THE TRACE: the numbers that BODIES leave, the first of them. */
    private static final class Trace {
        final int[] numbers = new int[MOST_TRACE];
        int count = 0;

        void leave(int body) {
            if (count < MOST_TRACE) {
                numbers[count] = body;
                count++;
            }
        }
    }

    /** THE TAPE and its reader; behind the first FAULT nothing more is read. */
    private static final class Tape {
        static final int MISPLACED = 1, NOT_AS_TOLD = 2, NO_ROOM = 3;

        final int[] bytes = new int[MOST_BYTES];
        int length = 0;
        int at = 0;
        int fault = 0;
        int faultPlace = 0;

        /** The MARKET that is told; null behind a FAULT. */
        Market read() {
            at = 0;
            fault = 0;
            Market told = readLaw();
            for (int i = 0; i <= MOST_ROPES && fault == 0 && (i == 0 || next() == 'l'); i++) {
                readRope(told);
            }
            for (int i = 0; i <= MOST_STALLS && fault == 0 && at < length; i++) {
                readStall(told);
            }
            return fault == 0 ? told : null;
        }

        Market readLaw() {
            pass('m');
            int low = number(0, 99);
            pass(',');
            int slack = number(0, 20);
            pass(';');
            return new Market(low, slack);
        }

        void readRope(Market told) {
            if (told.ropes == MOST_ROPES) {
                tellFault(NO_ROOM, at);
            }
            pass('l');
            int taut = number(1, 20);
            pass(';');
            if (fault == 0) {
                told.addRope(taut);
            }
        }

        void readStall(Market told) {
            int kind = kindOf(next());
            if (kind == NONE) {
                tellFault(MISPLACED, at);
            } else if (told.count == MOST_STALLS) {
                tellFault(NO_ROOM, at);
            }
            at++;
            int rope = number(0, told.ropes - 1);
            pass(',');
            int placeAt = at;
            int place = number(1, MOST_PLACES);
            if (told.standing(rope, place) != null) {
                tellFault(NOT_AS_TOLD, placeAt);
            }
            pass(',');
            int goods = number(0, MOST_GOODS);
            pass(';');
            if (fault == 0) {
                told.addStall(Stall.ofKind(kind), rope, place, goods);
            }
        }

        static int kindOf(int letter) {
            switch (letter) {
                case 't': return TABLE;
                case 'j': return JEWELLER;
                case 'b': return BUTCHER;
                case 'n': return NOTARY;
                case 'v': return VULTURE;
                default: return NONE;
            }
        }

        /** The byte that comes next; NONE at the end. */
        int next() {
            return byteAt(at);
        }

        int byteAt(int place) {
            return place < 0 || place >= length || place >= MOST_BYTES ? NONE : bytes[place];
        }

        /** Of several FAULTS the first is told. */
        void tellFault(int number, int place) {
            if (fault == 0) {
                fault = number;
                faultPlace = place;
            }
        }

        void pass(int letter) {
            if (fault == 0 && next() == letter) {
                at++;
            } else {
                tellFault(MISPLACED, at);
            }
        }

        /** The NUMBER that comes next; NONE if there is a FAULT. */
        int number(int least, int most) {
            int begin = at;
            int value = 0;
            int figures = 0;
            while (figures <= 2 && isFigure(byteAt(begin + figures))) {
                value = 10 * value + byteAt(begin + figures) - '0';
                figures++;
            }
            if (figures < 1 || figures > 2) {
                tellFault(MISPLACED, begin);
            } else if (value < least || value > most) {
                tellFault(NOT_AS_TOLD, begin);
            }
            if (fault != 0) {
                return NONE;
            }
            at = begin + figures;
            return value;
        }

        static boolean isFigure(int letter) {
            return letter >= '0' && letter <= '9';
        }
    }

    /** A MARKET: its law, its ROPES and STALLS, and how deep all hangs. */
    private static final class Market {
        final int low;
        int slack;
        int ropes = 0;
        int count = 0;
        final int[] taut = new int[MOST_ROPES];
        final Stall[] stalls = new Stall[MOST_STALLS];

        Market(int low, int slack) {
            this.low = low;
            this.slack = slack;
        }

        void addRope(int strands) {
            if (ropes < MOST_ROPES) {
                taut[ropes] = strands;
                ropes++;
            }
        }

        void addStall(Stall s, int rope, int place, int goods) {
            if (count < MOST_STALLS) {
                s.number = count;
                s.rope = rope;
                s.place = place;
                s.goods = goods;
                stalls[count] = s;
                count++;
            }
        }

        Market twin() {
            Market other = new Market(low, slack);
            other.ropes = ropes;
            other.count = count;
            System.arraycopy(taut, 0, other.taut, 0, MOST_ROPES);
            for (int i = 0; i < MOST_STALLS; i++) {
                Stall s = stalls[i];
                if (s != null) {
                    other.stalls[i] = s.twin();
                }
            }
            return other;
        }

        /** Sets what an ACT changes, be it done or undone. */
        void put(int what, int one, int value) {
            if (what == OF_SLACK) {
                slack = value;
            } else if (what == OF_TAUT) {
                if (one >= 0 && one < MOST_ROPES) {
                    taut[one] = value;
                }
            } else if (one >= 0 && one < MOST_STALLS) {
                Stall s = stalls[one];
                if (s != null) {
                    s.put(what, value);
                }
            }
        }

        /** Who stands at a PLACE of a ROPE; null if nobody does. */
        Stall standing(int rope, int place) {
            for (Stall s : stalls) {
                if (s != null && s.rope == rope && s.place == place) {
                    return s;
                }
            }
            return null;
        }

        /** SAG; 0 where there is no ROPE, so that none lifts its neighbours. */
        int sag(int rope, int x) {
            int strands = rope < 0 || rope >= MOST_ROPES ? 0 : taut[rope];
            if (strands < 1) {
                return 0;
            }
            int pull = 0;
            for (Stall s : stalls) {
                if (s != null && s.rope == rope) {
                    pull += s.weight() * Math.min(x, s.place) * (9 - Math.max(x, s.place));
                }
            }
            return pull / strands + slack;
        }

        int depth(int rope, int x) {
            return sag(rope, x) - (sag(rope - 1, x) + sag(rope + 1, x)) / 4;
        }

        int price(Stall s) {
            return Math.max(0, s.goods - depth(s.rope, s.place) / 5);
        }

        int dropping() {
            int bits = 0;
            for (Stall s : stalls) {
                if (s != null && depth(s.rope, s.place) > low) {
                    bits |= 1 << s.number;
                }
            }
            return bits;
        }

        /** The first STALL that DROPS; NONE if none does. */
        int firstDropping() {
            for (Stall s : stalls) {
                if (s != null && depth(s.rope, s.place) > low) {
                    return s.number;
                }
            }
            return NONE;
        }

        /** Whether a WALKWAY is between two STALLS. */
        boolean joins(Stall a, Stall b) {
            return Math.abs(a.rope - b.rope) == 1 && a.place == b.place;
        }

        /** Whether the WALKWAY between two STALLS MEETS. */
        boolean meets(Stall a, Stall b) {
            return Math.abs(depth(a.rope, a.place) - depth(b.rope, b.place)) <= 1;
        }

        int countWalkways(boolean onlyMeeting) {
            int walkways = 0;
            for (Stall a : stalls) {
                for (Stall b : stalls) {
                    if (a != null && b != null && a.number < b.number && joins(a, b)
                            && (!onlyMeeting || meets(a, b))) {
                        walkways++;
                    }
                }
            }
            return walkways;
        }

        /** Whether each STALL hangs as the ITEMS of a ROW from i on tell. */
        boolean hangsAs(Row told, int i) {
            if (!told.has(i, count)) {
                return false;
            }
            for (Stall s : stalls) {
                if (s != null && told.items[i + s.number] != depth(s.rope, s.place)) {
                    return false;
                }
            }
            return true;
        }
    }

    /**
     * What is FORETOLD: the market itself is changed for a look at it, and put back ahead of the answer,
     * so that no call has to make a market.
     */
    private static final class Foretold {
        static int fewestGirls(Market m, Stall a, Stall b, int what) {
            int girlsOfA = a.girls;
            int girlsOfB = b.girls;
            int answer = NONE;
            for (int all = 0; all <= 2 * MOST_GIRLS && answer == NONE; all++) {
                int mostAtA = Math.min(MOST_GIRLS, all);
                for (int atA = Math.max(0, all - MOST_GIRLS); atA <= mostAtA && answer == NONE; atA++) {
                    a.girls = girlsOfA + atA;
                    b.girls = girlsOfB + all - atA;
                    if (m.meets(a, b)) {
                        answer = what == 0 ? all : atA;
                    }
                }
            }
            a.girls = girlsOfA;
            b.girls = girlsOfB;
            return answer;
        }

        static int slideToMeet(Market m, int what) {
            int best = NONE;
            int most = NONE;
            for (Stall s : m.stalls) {
                for (int place = 1; place <= MOST_PLACES; place++) {
                    if (s != null && m.standing(s.rope, place) == null) {
                        int own = s.place;
                        s.place = place;
                        int meeting = m.countWalkways(true);
                        s.place = own;
                        if (meeting > most) {
                            most = meeting;
                            best = 9 * s.number + place;
                        }
                    }
                }
            }
            return what == 0 ? best : most;
        }

        /**
         * For each set of STALLS whose WARES are taken off by then: in how many orders the rest can follow.
         * Answers the set of all that are to be taken off.
         */
        static int countOrders(Market m, int[] orders) {
            int toTakeOff = 0;
            for (Stall s : m.stalls) {
                if (s != null && !s.off) {
                    toTakeOff |= 1 << s.number;
                }
            }
            for (int taken = orders.length - 1; taken >= 0; taken--) {
                boolean isPart = (taken & ~toTakeOff) == 0;
                orders[taken] = isPart && holdsWithout(m, toTakeOff, taken) ? ordersBehind(orders, toTakeOff, taken) : 0;
            }
            return toTakeOff;
        }

        static boolean holdsWithout(Market m, int toTakeOff, int taken) {
            takeOff(m, toTakeOff, taken);
            boolean holds = m.firstDropping() == NONE;
            takeOff(m, toTakeOff, 0);
            return holds;
        }

        static void takeOff(Market m, int toTakeOff, int taken) {
            for (Stall s : m.stalls) {
                if (s != null && (toTakeOff >> s.number & 1) == 1) {
                    s.off = (taken >> s.number & 1) == 1;
                }
            }
        }

        static int ordersBehind(int[] orders, int toTakeOff, int taken) {
            if (taken == toTakeOff) {
                return 1;
            }
            int ways = 0;
            for (int i = 0; i < MOST_STALLS; i++) {
                ways += ordersFrom(orders, toTakeOff, taken, i);
            }
            return ways;
        }

        /** In how many orders all can be taken off, if STALL i comes next. */
        static int ordersFrom(int[] orders, int toTakeOff, int taken, int i) {
            boolean isLeft = (toTakeOff & ~taken & 1 << i) != 0;
            int then = taken | 1 << i;
            return isLeft && then >= 0 && then < orders.length ? orders[then] : 0;
        }

        static int inFirstOrder(int[] orders, int toTakeOff, int k) {
            if (orders[0] == 0) {
                return NONE;
            }
            int taken = 0;
            int next = NONE;
            for (int step = 0; step <= k; step++) {
                next = NONE;
                for (int i = MOST_STALLS - 1; i >= 0; i--) {
                    if (ordersFrom(orders, toTakeOff, taken, i) > 0) {
                        next = i;
                    }
                }
                if (next == NONE) {
                    return NONE;
                }
                taken |= 1 << next;
            }
            return next;
        }

        static int cutRopes(Market m, Row told, int i) {
            int bits = 0;
            for (int rope = 0; rope < MOST_ROPES; rope++) {
                int strands = m.taut[rope];
                if (strands > 1) {
                    m.taut[rope] = strands - 1;
                    if (m.hangsAs(told, i)) {
                        bits |= 1 << rope;
                    }
                    m.taut[rope] = strands;
                }
            }
            return bits;
        }

        static int goodsInBox(Market m, Stall s, int depth, int what) {
            int own = s.goods;
            int least = NONE;
            int most = NONE;
            for (int goods = 0; goods <= MOST_GOODS; goods++) {
                s.goods = goods;
                if (m.depth(s.rope, s.place) == depth) {
                    least = least == NONE ? goods : least;
                    most = goods;
                }
            }
            s.goods = own;
            return what == 0 ? least : most;
        }

        static int goodsRead(Market m, Stall a, Stall b, Row told, int i, int what) {
            int goodsOfA = a.goods;
            int goodsOfB = b.goods;
            int ways = 0;
            int first = NONE;
            for (int ofA = 0; ofA <= MOST_GOODS; ofA++) {
                for (int ofB = 0; ofB <= MOST_GOODS; ofB++) {
                    a.goods = ofA;
                    b.goods = ofB;
                    if (m.hangsAs(told, i)) {
                        first = first == NONE ? 21 * ofA + ofB : first;
                        ways++;
                    }
                }
            }
            a.goods = goodsOfA;
            b.goods = goodsOfB;
            return what == 0 ? ways : first;
        }

        static int leastTaut(Market m, int rope) {
            if (rope < 0 || rope >= MOST_ROPES) {
                return NONE;
            }
            int own = m.taut[rope];
            int answer = NONE;
            for (int strands = 1; strands <= 40 && answer == NONE; strands++) {
                m.taut[rope] = strands;
                if (m.firstDropping() == NONE) {
                    answer = strands;
                }
            }
            m.taut[rope] = own;
            return answer;
        }

        static int rainsToDrop(Market m, int what) {
            int own = m.slack;
            int answer = NONE;
            for (int rains = 0; rains <= 99 && answer == NONE; rains++) {
                m.slack = own + rains;
                int dropping = m.firstDropping();
                if (dropping != NONE) {
                    answer = what == 0 ? rains : dropping;
                }
            }
            m.slack = own;
            return answer;
        }

        static int dearestPlace(Market m, Stall s) {
            int own = s.place;
            int dearest = own;
            int most = NONE;
            for (int place = 1; place <= MOST_PLACES; place++) {
                if (canStand(m, s, place)) {
                    s.place = place;
                    int price = m.price(s);
                    s.place = own;
                    if (price > most) {
                        most = price;
                        dearest = place;
                    }
                }
            }
            return dearest;
        }

        static int rentedPlaces(Market m, Stall he, Stall a, Stall b) {
            int own = he.place;
            int bits = 0;
            for (int place = 1; place <= MOST_PLACES; place++) {
                if (canStand(m, he, place)) {
                    he.place = place;
                    if (m.meets(a, b)) {
                        bits |= 1 << (place - 1);
                    }
                    he.place = own;
                }
            }
            return bits;
        }

        /** Whether a PLACE of its ROPE is free, or a STALL's own. */
        static boolean canStand(Market m, Stall s, int place) {
            Stall there = m.standing(s.rope, place);
            return there == null || there.number == s.number;
        }

        static int afterWind(Market m, int hours, int seed, int rope) {
            int[] own = m.taut.clone();
            long drawn = seed;
            int held = 0;
            for (int hour = 0; hour < hours; hour++) {
                for (int r = 0; r < m.ropes && r < MOST_ROPES; r++) {
                    drawn = drawn * 16807L % 2147483647L;
                    if (drawn % 20 == 0 && m.taut[r] > 1) {
                        m.taut[r]--;
                    }
                }
                if (m.firstDropping() == NONE) {
                    held++;
                }
            }
            int answer = rope >= 0 && rope < MOST_ROPES ? m.taut[rope] : held;
            System.arraycopy(own, 0, m.taut, 0, MOST_ROPES);
            return answer;
        }
    }

    /** A STALL, with the BODIES that are lent to all. */
    private abstract static class Stall {
        int number = 0;
        int rope = 0;
        int place = 0;
        int goods = 0;
        int buyers = 0;
        int girls = 0;
        boolean off = false;

        static Stall ofKind(int kind) {
            switch (kind) {
                case JEWELLER: return new Jeweller();
                case BUTCHER: return new Butcher();
                case NOTARY: return new Notary();
                case VULTURE: return new Vulture();
                default: return new Table();
            }
        }

        Stall twin() {
            Stall other = ofKind(kindTold());
            other.number = number;
            other.rope = rope;
            other.place = place;
            other.goods = goods;
            other.buyers = buyers;
            other.girls = girls;
            other.off = off;
            return other;
        }

        void put(int what, int value) {
            switch (what) {
                case OF_BUYERS: buyers = value; break;
                case OF_GIRLS: girls = value; break;
                case OF_PLACE: place = value; break;
                case OF_WARES: off = value == 1; break;
                default: break;
            }
        }

        abstract int kindTold();

        int wares() {
            return goods;
        }

        int buyersThatCount() {
            return buyers;
        }

        int weight() {
            return (off ? 0 : wares()) + buyersThatCount() + girls;
        }

        int size(Trace trace) {
            trace.leave(10);
            return goods;
        }

        int mark(Trace trace) {
            trace.leave(20);
            return number;
        }
    }

    private static class Table extends Stall {
        int kindTold() {
            return TABLE;
        }

        int size(Trace trace) {
            trace.leave(11);
            int lent = super.size(trace);
            return lent + mark(trace);
        }

        int mark(Trace trace) {
            trace.leave(21);
            return super.mark(trace) + weight();
        }
    }

    private static final class Jeweller extends Table {
        int kindTold() {
            return JEWELLER;
        }

        int wares() {
            return goods / 2;
        }

        int size(Trace trace) {
            trace.leave(12);
            return -super.size(trace);
        }

        int mark(Trace trace) {
            trace.leave(24);
            return 2 * super.mark(trace);
        }
    }

    private static final class Butcher extends Table {
        int kindTold() {
            return BUTCHER;
        }

        int wares() {
            return 2 * goods;
        }

        int mark(Trace trace) {
            trace.leave(22);
            return super.mark(trace) - 1000;
        }
    }

    private static class Notary extends Stall {
        int kindTold() {
            return NOTARY;
        }

        int buyersThatCount() {
            return 0;
        }

        int size(Trace trace) {
            trace.leave(13);
            return super.size(trace) - 100;
        }

        int mark(Trace trace) {
            trace.leave(23);
            int lent = super.mark(trace);
            return lent - size(trace);
        }
    }

    private static final class Vulture extends Notary {
        int kindTold() {
            return VULTURE;
        }

        int wares() {
            return -goods;
        }

        int size(Trace trace) {
            trace.leave(14);
            return 2 * super.size(trace);
        }
    }
}
