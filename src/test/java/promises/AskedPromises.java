/** Promises 34 to 38: kinds, asks and their trace, counts. */
final class AskedPromises {
    private static final int BAD = Due.BAD, STATE = Due.STATE, NONE = Due.NONE, KIND = Due.KIND;
    private static final int MAX = Integer.MAX_VALUE, MIN = Integer.MIN_VALUE;
    private static final String ALL_SORTS = "m99,0;l20;t0,4,9;j0,5,9;b0,6,9;n0,7,9;v0,8,9;";

    private AskedPromises() {
    }

    // ---- 34

    static void theKindOfAStall(Due due) {
        due.says(34, "The KIND of a STALL, as told (1 to 5).");
        Run.told(due, ALL_SORTS).is(1, "kind(0)").is(2, "kind(1)").is(3, "kind(2)").is(4, "kind(3)").is(5, "kind(4)").does("unload(2, 1)", "slide(2, 1)").is(3, "kind(2)");
    }

    static void theKindOfNoSuchStall(Due due) {
        due.says(34, "BAD.");
        Run.told(due, ALL_SORTS).is(BAD, "kind(5)", "kind(-1)", "kind(6)", "kind(" + MAX + ")", "kind(" + MIN + ")");
        new Run(due).is(BAD, "kind(0)");
    }

    // ---- 35

    static void aStallIsTakenAsOneOfAKind(Due due) {
        due.says(35, "A STALL is taken as one of a KIND (0 .. 5): its number.");
        Run.told(due, ALL_SORTS).is(0, "as(0, 0)", "as(0, 1)").is(1, "as(1, 2)").is(2, "as(2, 3)").is(3, "as(3, 4)").is(4, "as(4, 5)", "as(4, 0)").is(0, "status()");
    }

    static void theKindsOfStalls(Due due) {
        due.says(35, "KINDS of STALLS: 0 STALL; 1 TABLE, a STALL; 2 JEWELLER, a TABLE; 3 BUTCHER, a TABLE; 4 NOTARY, a STALL; 5 VULTURE, a NOTARY. By this it is asked.");
        Run x = Run.told(due, ALL_SORTS);
        // which kinds each is, bit by bit from 0 STALL on
        int[] is = {0b000011, 0b000111, 0b001011, 0b010001, 0b110001};
        for (int one = 0; one < 5; one++) {
            for (int kind = 0; kind < 6; kind++) {
                boolean fits = (is[one] >> kind & 1) == 1;
                x.is(fits ? one : KIND, "as(" + one + ", " + kind + ")").is(fits ? 0 : 3, "status()");
            }
        }
    }

    static void asBadly(Due due) {
        due.says(35, "BAD;");
        Run x = Run.told(due, ALL_SORTS).is(BAD, "as(0, 6)", "as(0, -1)", "as(0, " + MAX + ")", "as(0, " + MIN + ")", "as(5, 0)", "as(-1, 0)", "as(" + MAX + ", 0)");
        new Run(due).is(BAD, "as(0, 0)");
    }

    static void asOneThatItIsNot(Due due) {
        due.says(35, "KIND: it is no such one.");
        Run.told(due, ALL_SORTS).is(KIND, "as(0, 2)", "as(1, 3)", "as(2, 4)", "as(3, 5)", "as(4, 1)", "as(3, 1)").is(3, "status()");
    }

    // ---- 36

    private static void asked(Run x, int one, int what, int answer, int... trace) {
        x.is(answer, "ask(" + one + ", " + what + ")");
        for (int i = 0; i < 8; i++) {
            x.is(i < trace.length ? trace[i] : NONE, "trace(" + i + ")");
        }
    }

    static void anAsk(Due due) {
        due.says(36, "An ASK (0, 1) of a STALL.");
        Run.told(due, "m99,0;l20;n0,4,7;t0,5,6;").is(-93, "ask(0, 0)").is(93, "ask(0, 1)").is(13, "ask(1, 0)").is(7, "ask(1, 1)");
    }

    static void anAskBadly(Due due) {
        due.says(36, "BAD.");
        Run.told(due, ALL_SORTS).is(BAD, "ask(5, 0)", "ask(-1, 0)", "ask(0, 2)", "ask(0, -1)", "ask(" + MAX + ", 0)", "ask(0, " + MIN + ")").is(NONE, "trace(0)");
        new Run(due).is(BAD, "ask(0, 0)");
    }

    static void theTraceIsEmptyAheadOfAnAsk(Due due) {
        due.says(36, "THE TRACE is empty ahead of it.");
        Run x = Run.told(due, ALL_SORTS).does("ask(1, 0)").is(20, "trace(5)").does("ask(3, 0)").is(13, "trace(0)").is(10, "trace(1)");
        x.is(NONE, "trace(2)", "trace(3)", "trace(4)", "trace(5)");
    }

    static void size10IsLentToAll(Due due) {
        due.says(36, "0 SIZE: 10 lent to all STALLS: GOODS.");
        Run x = Run.told(due, "m99,0;l20;n0,4,0;n0,5,20;").does("girl(1, 1)", "unload(1, 1)");
        asked(x, 0, 0, -100, 13, 10);
        asked(x, 1, 0, 20 - 100, 13, 10);
    }

    static void size11OfTables(Due due) {
        due.says(36, "11 of TABLES: what 10 gives, and MARK.");
        Run x = Run.told(due, ALL_SORTS);
        asked(x, 0, 0, 9 + 9, 11, 10, 21, 20);
        asked(x, 2, 0, 9 + (2 + 18 - 1000), 11, 10, 22, 21, 20);
    }

    static void size12OfJewellers(Due due) {
        due.says(36, "12 of JEWELLERS: 0 less what 11 gives.");
        asked(Run.told(due, ALL_SORTS), 1, 0, -(9 + 2 * (1 + 4)), 12, 11, 10, 24, 21, 20);
    }

    static void size13OfNotaries(Due due) {
        due.says(36, "13 of NOTARIES: what 10 gives, less 100.");
        asked(Run.told(due, ALL_SORTS), 3, 0, 9 - 100, 13, 10);
    }

    static void size14OfVultures(Due due) {
        due.says(36, "14 of VULTURES: what 13 gives, twice.");
        asked(Run.told(due, ALL_SORTS), 4, 0, 2 * (9 - 100), 14, 13, 10);
    }

    static void mark20IsLentToAll(Due due) {
        due.says(36, "1 MARK: 20 lent to all STALLS: the number.");
        Run x = Run.told(due, "m99,0;l20;t0,1,0;t0,2,0;t0,3,0;t0,4,0;t0,5,0;t0,6,0;");
        for (int one = 0; one < 6; one++) {
            asked(x, one, 1, one, 21, 20);
        }
    }

    static void mark21OfTables(Due due) {
        due.says(36, "21 of TABLES: what 20 gives, and WEIGHT.");
        Run x = Run.told(due, ALL_SORTS);
        asked(x, 0, 1, 9, 21, 20);
        asked(x.does("buyers(0, 20)", "girl(0, 1)"), 0, 1, 30, 21, 20);
        asked(x.does("unload(0, 1)"), 0, 1, 21, 21, 20);
        asked(x, 0, 0, 9 + 21, 11, 10, 21, 20);
    }

    static void mark22OfButchers(Due due) {
        due.says(36, "22 of BUTCHERS: what 21 gives, less 1000.");
        asked(Run.told(due, ALL_SORTS), 2, 1, 2 + 18 - 1000, 22, 21, 20);
    }

    static void mark23OfNotaries(Due due) {
        due.says(36, "23 of NOTARIES: what 20 gives, less SIZE.");
        asked(Run.told(due, ALL_SORTS), 3, 1, 3 - (9 - 100), 23, 20, 13, 10);
    }

    static void mark24OfJewellers(Due due) {
        due.says(36, "24 of JEWELLERS: what 21 gives, twice.");
        asked(Run.told(due, ALL_SORTS), 1, 1, 2 * (1 + 4), 24, 21, 20);
    }

    static void theBodyOfTheNearestKind(Due due) {
        due.says(36, "(Of an ask the BODY told for the KIND begins, else that of the nearest KIND that it is, too, else the one that is lent;");
        Run x = Run.told(due, ALL_SORTS);
        int[][] first = {{11, 21}, {12, 24}, {11, 22}, {13, 23}, {14, 23}};
        for (int one = 0; one < 5; one++) {
            x.does("ask(" + one + ", 0)").is(first[one][0], "trace(0)").does("ask(" + one + ", 1)").is(first[one][1], "trace(0)");
        }
    }

    static void withinOthersItIsAskedAnew(Due due) {
        due.says(36, "SIZE, MARK within others are asked of the same STALL anew.)");
        Run x = Run.told(due, ALL_SORTS);
        asked(x, 2, 0, 9 + (2 + 18 - 1000), 11, 10, 22, 21, 20);
        asked(x, 4, 1, 4 - 2 * (9 - 100), 23, 20, 14, 13, 10);
    }

    // ---- 37

    static void eachBodyLeavesItsNumber(Due due) {
        due.says(37, "4 ASKS of STALLS, by BODIES, each of which leaves its number in THE TRACE as it begins (the first 16):");
        Run x = Run.told(due, ALL_SORTS);
        asked(x, 1, 0, -19, 12, 11, 10, 24, 21, 20);
        for (int i = 6; i < 20; i++) {
            x.is(NONE, "trace(" + i + ")");
        }
    }

    static void theTraceStaysTillTheNextAsk(Due due) {
        due.says(37, "Number i of THE TRACE;");
        Run x = Run.told(due, ALL_SORTS).does("ask(1, 0)").is(BAD, "ask(5, 0)", "ask(0, 2)").is(STATE, "undo()").does("rain()", "undo()", "image(0)", "restore(0)");
        x.reads("m1,1;l1;");
        x.is(12, "trace(0)").is(20, "trace(5)");
    }

    static void noSuchNumberOfTheTrace(Due due) {
        due.says(37, "NONE.");
        Run x = Run.told(due, ALL_SORTS).is(NONE, "trace(0)").does("ask(1, 0)").is(20, "trace(5)");
        x.is(NONE, "trace(-1)", "trace(6)", "trace(15)", "trace(16)", "trace(" + MAX + ")", "trace(" + MIN + ")");
        new Run(due).is(NONE, "trace(0)", "trace(-1)", "trace(16)");
    }

    // ---- 38

    static void howMany(Due due) {
        due.says(38, "How many: 0 ROWS, 1 ROPES, 2 STALLS, 3 LOW, 4 SLACK, 5 ACTS that can be undone, 6 bytes on the tape.");
        Run x = Run.told(due, "m33,4;l20;l2;t0,4,9;").does("row(3, 0, 0)", "row(7, 2, 9)", "row(0, 1, 1)", "girl(0, 1)", "rain()", "rain()").feed("m1,");
        int[] counts = {3, 2, 1, 33, 6, 3, 3};
        for (int what = 0; what < counts.length; what++) {
            x.is(counts[what], "count(" + what + ")");
        }
        x.does("undo()", "drop(3)").is(2, "count(0)").is(5, "count(4)").is(2, "count(5)");
        for (int row = 0; row < 8; row++) {
            x.does("row(" + row + ", 0, 0)");
        }
        x.is(8, "count(0)");
    }

    static void countOfNoSuchWhat(Due due) {
        due.says(38, "BAD.");
        Run.told(due, ALL_SORTS).is(BAD, "count(7)", "count(-1)", "count(" + MAX + ")", "count(" + MIN + ")");
        new Run(due).is(BAD, "count(7)", "count(-1)");
    }
}
