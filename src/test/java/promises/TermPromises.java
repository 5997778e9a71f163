/** What the terms say of all calls: numbers, divisions, sets, the order of refusals, findings, and that refusals change nothing. */
final class TermPromises {
    private static final int BAD = Due.BAD, STATE = Due.STATE, FULL = Due.FULL;
    private static final int NULL = Due.NULL, PLACE = Due.PLACE, KIND = Due.KIND, SIZE = Due.SIZE, STORE = Due.STORE;
    private static final int MAX = Integer.MAX_VALUE, MIN = Integer.MIN_VALUE;

    private TermPromises() {
    }

    /**
     * A market in which every call can be refused for its own reason: 9 girls at stall 0, wares of stall 3 off, rope 2 of TAUT 1,
     * rows 0 (3 bytes), 1 (8 shorts) and 3 (none), row 2 missing, image 0 kept and 1 not, a byte on the tape, acts, a trace, a fault.
     */
    private static Run rich(Due due) {
        Run x = new Run(due);
        x.reads("m1,21;");
        x.reads("m40,18;l9;l8;l1;t0,4,9;b1,4,4;n1,5,7;v2,4,9;j0,5,8;t2,8,3;");
        x.row(0, 0, 7, 8, 9).row(1, 1, 1, 2, 3, 4, 5, 6, 7, 8).does("row(3, 0, 0)", "image(0)");
        x.times(9, "girl(0, 1)").does("buyers(1, 20)", "unload(3, 1)", "slide(5, 7)", "rain()", "cut(0)", "girl(1, 1)", "girl(1, -1)");
        return x.does("ask(4, 0)").feed("m");
    }

    static void numbersGoFrom0On(Due due) {
        due.says(16, "Numbers go from 0 on.");
        Run x = Run.told(due, "m99,0;l20;l19;t1,4,3;n0,5,6;");
        x.is(3, "stall(0, 2)").is(6, "stall(1, 2)").is(BAD, "stall(-1, 2)", "stall(2, 2)");
        x.is(20, "rope(0, 1, 2)").is(19, "rope(1, 1, 2)").is(BAD, "rope(-1, 1, 2)", "rope(2, 1, 2)");
        x.is(3, "row(0, 2, 3)").is(5, "set(0, 0, 5)", "set(0, 2, 5)").is(PLACE, "set(0, -1, 5)", "set(0, 3, 5)");
    }

    static void divisionsAreCutTowards0(Due due) {
        due.says(17, "All that is divided is cut towards 0");
        Run.told(due, "m99,0;l7;t0,4,1;").is(2, "rope(0, 4, 0)");
        Run.told(due, "m99,0;l7;v0,4,1;").is(-2, "rope(0, 4, 0)");
        Run.told(due, "m99,0;l20;l20;t0,4,7;").is(-1, "rope(1, 4, 1)");
        Run.told(due, "m99,0;l20;l20;v0,4,7;").is(1, "rope(1, 4, 1)");
        Run.told(due, "m99,0;l20;t0,4,9;").is(8, "stall(0, 8)");
        Run.told(due, "m99,0;l20;v0,4,9;").is(10, "stall(0, 8)");
        Run.told(due, "m99,0;l20;j0,4,19;").is(9, "stall(0, 6)");
    }

    /** No call of the face tells a fraction, so that a sag that is none is as plain as any other. */
    static void noCallTellsAFraction(Due due) {
        due.says(17, ", but fractions, told as two numbers in lowest terms (0 is 0 by 1).");
        Run.told(due, "m99,0;l20;t0,4,0;").is(0, "rope(0, 4, 0)", "rope(0, 4, 1)");
    }

    static void setsAreBits(Due due) {
        due.says(18, "Sets are bits.");
        Run x = Run.told(due, "m0,0;l20;t0,1,0;t0,2,0;t0,3,0;t0,4,0;t0,5,0;t0,6,0;").is(0, "drops()").does("rain()").is(63, "drops()");
        x = Run.told(due, "m0,0;l20;l20;l20;t1,4,1;t0,4,0;t2,4,1;").is(1 + 4, "drops()");
    }

    static void theFirstRefusalThatFits(Due due) {
        due.says(24, "Refusals are answers, the first of these that fits, but as told: BAD (a number is not as told; there is no such thing), STATE (as told), FULL (as told), then FINDINGS");
        Run x = rich(due);
        x.is(STATE, "even(0, 5, 0)").is(BAD, "even(0, 5, 2)");
        x.is(STATE, "rented(0, 4, 2)").is(BAD, "rented(0, 4, 4)");
        x.is(STATE, "restore(1)").is(BAD, "restore(2)");
        x.is(FULL, "girl(0, 1)").is(BAD, "girl(0, 2)", "girl(6, 1)");
        x.is(SIZE, "row(0, 0, -1)").is(BAD, "row(8, 0, -1)", "row(0, 3, -1)");
        x.is(NULL, "set(2, 0, 0)", "set(2, -1, 0)").is(BAD, "set(8, -1, 0)");
        x.is(NULL, "copy(2, -1, 0, 0, 1)").is(BAD, "copy(2, 0, 8, 0, 1)", "copy(8, 0, 2, 0, 1)");
        x.is(NULL, "reads(0, 1, 2, 0, 0)").is(BAD, "reads(0, 1, 2, 0, 2)", "reads(0, 0, 2, 0, 0)", "reads(0, 6, 2, 0, 0)");
        x.is(KIND, "as(0, 4)").is(BAD, "as(0, 6)", "as(6, 4)");
        x = new Run(due).is(BAD, "image(2)").is(STATE, "image(0)");
        x.is(STATE, "walkways(2)", "bestSlide(2)", "unloaded(6)", "whoCut(8, 0)", "falls(2)", "wind(41, 0, 7)");
        x.is(STATE, "whoCut(0, 0)").is(0, "status()");
    }

    static void theFirstFindingInTime(Due due) {
        due.says(4, ", of several the first in time:");
        Run x = new Run(due).row(0, 0, 1, 2).row(1, 1, 1, 2);
        x.is(NULL, "copy(2, -1, 0, 9, 1)", "copy(0, -1, 2, 9, 1)", "copy(2, 0, 3, 0, -1)");
        x.is(STORE, "copy(0, -1, 1, 9, 1)", "copy(1, 0, 0, 0, 3)", "copy(0, 0, 1, 0, -1)");
        x.is(PLACE, "copy(0, -1, 0, 9, 1)");
    }

    static void theNumberOfNull(Due due) {
        due.says(5, "-1000010 less 1 NULL (a ROW that is missing)");
        Run x = new Run(due);
        x.is(-1000011, "drop(0)", "set(0, 0, 0)", "copy(0, 0, 0, 0, 0)").is(1, "status()");
    }

    static void theNumberOfPlace(Due due) {
        due.says(3, "2 PLACE (no such place of a ROW)");
        new Run(due).does("row(0, 0, 1)").is(-1000012, "set(0, 1, 0)", "set(0, -1, 0)", "copy(0, 0, 0, 0, 2)").is(2, "status()");
    }

    static void theNumberOfKind(Due due) {
        due.says(35, "3 KIND (a STALL that is not that)");
        Run.told(due, "m9,0;l9;t0,1,1;").is(-1000013, "as(0, 2)", "as(0, 5)").is(3, "status()");
    }

    static void theNumberOfSize(Due due) {
        due.says(2, "4 SIZE (fewer than none)");
        new Run(due).is(0, "row(0, 0, 0)").is(-1000014, "row(0, 0, -1)").is(4, "status()");
    }

    static void theNumberOfStore(Due due) {
        due.says(4, "5 STORE (ROWS of two LANES).");
        new Run(due).does("row(0, 0, 1)", "row(1, 1, 1)").is(-1000015, "copy(0, 0, 1, 0, 1)").is(5, "status()");
    }

    static void refusedCallsChangeNothing(Due due) {
        due.says(39, "What is refused, or found, changes nothing but status().");
        String[] bad = {"row(-1, 0, 1)", "row(8, 0, 1)", "row(0, -1, 1)", "row(0, 3, 1)", "row(0, 0, 41)", "set(-1, 0, 1)", "set(8, 0, 1)",
            "copy(-1, 0, 0, 0, 1)", "copy(0, 0, 8, 0, 1)", "drop(-1)", "drop(8)", "feed(-1)", "feed(256)", "buyers(6, 1)", "buyers(0, -1)",
            "buyers(0, 21)", "girl(6, 1)", "girl(1, 0)", "girl(1, 2)", "slide(6, 1)", "slide(0, 0)", "slide(0, 9)", "unload(6, 1)", "unload(0, 2)",
            "unload(3, -1)", "cut(3)", "cut(-1)", "stall(6, 0)", "stall(0, 9)", "rope(3, 1, 0)", "rope(0, 9, 0)", "rope(0, 1, 4)", "walkway(0, 0)",
            "walkways(2)", "even(0, 0, 0)", "even(0, 1, 2)", "bestSlide(2)", "unloaded(-2)", "unloaded(6)", "whoCut(8, 0)", "box(0, 10000, 0)",
            "box(0, 0, 2)", "reads(0, 0, 1, 0, 0)", "reads(0, 1, 8, 0, 0)", "reads(0, 1, 1, 0, 2)", "holds(3)", "falls(2)", "dearest(6)",
            "rented(2, 0, 0)", "wind(41, 1, -1)", "wind(1, 0, -1)", "wind(1, 1, 3)", "image(2)", "restore(2)", "kind(6)", "as(6, 0)", "as(0, 6)",
            "ask(6, 0)", "ask(0, 2)", "count(7)", "row(" + MAX + ", 0, 1)", "set(" + MIN + ", 0, 1)", "buyers(" + MAX + ", 1)", "cut(" + MIN + ")"};
        String[] state = {"girl(1, -1)", "slide(0, 4)", "slide(0, 5)", "unload(0, 0)", "unload(3, 1)", "cut(2)", "even(0, 5, 0)", "rented(0, 4, 2)",
            "rented(2, 0, 5)", "rented(2, 2, 4)", "restore(1)"};
        refusalsLeaveAll(due, BAD, bad);
        refusalsLeaveAll(due, STATE, state);
        refusalsLeaveAll(due, FULL, "girl(0, 1)");
        refusalsLeaveAll(due, SIZE, "row(0, 0, -1)", "row(2, 1, " + MIN + ")");
        refusalsLeaveAll(due, NULL, "set(2, 0, 1)", "copy(2, 0, 0, 0, 1)", "copy(0, 0, 2, 0, 1)", "drop(2)", "whoCut(2, 0)", "reads(0, 1, 2, 0, 0)");
        refusalsLeaveAll(due, PLACE, "set(0, 3, 1)", "copy(0, 0, 0, 2, 2)", "copy(1, 0, 1, 0, 9)", "whoCut(0, 0)", "reads(0, 1, 1, 3, 0)");
        refusalsLeaveAll(due, STORE, "copy(0, 0, 1, 0, 1)");
        refusalsLeaveAll(due, KIND, "as(0, 4)");
    }

    private static void refusalsLeaveAll(Due due, int want, String... calls) {
        for (String call : calls) {
            Run called = rich(due).is(want, call);
            called.is(want < -1000010 ? -1000010 - want : 0, "status()");
            Look.alike(due, call, rich(due), called);
        }
    }

    static void refusedCallsWithoutAMarketChangeNothing(Due due) {
        due.says(18, "changes nothing but status().");
        for (String call : new String[] {"undo()", "rain()", "drops()", "walkways(0)", "bestSlide(0)", "unloaded(-1)", "whoCut(0, 0)", "falls(0)",
            "wind(1, 1, -1)", "image(0)", "restore(0)"}) {
            Look.alike(due, call, new Run(due).row(0, 0, 1), new Run(due).row(0, 0, 1).is(STATE, call).is(0, "status()"));
        }
    }
}
