/** Promises 1 to 5 and 39: the new object, rows, and what status() tells of them. */
final class RowPromises {
    private static final int BAD = Due.BAD, STATE = Due.STATE, NONE = Due.NONE;
    private static final int NULL = Due.NULL, PLACE = Due.PLACE, KIND = Due.KIND, SIZE = Due.SIZE, STORE = Due.STORE;
    private static final int MAX = Integer.MAX_VALUE, MIN = Integer.MIN_VALUE;

    // the one stall hangs at 20, or at 0, behind a cut: whoCut(row, i) is 1 where an item is that, and 0 where it is not
    private static final String TELLS_20 = "m99,0;l20;t0,4,19;", TELLS_0 = "m99,0;l20;t0,4,0;";

    private RowPromises() {
    }

    // ---- 1

    static void aNewObjectHasNoMarket(Due due) {
        due.says(1, "No MARKET.");
        Run x = new Run(due);
        x.is(STATE, "drops()", "rain()", "walkways(0)", "bestSlide(0)", "unloaded(-1)", "whoCut(0, 0)", "falls(0)", "wind(0, 1, -1)", "image(0)");
        x.is(BAD, "stall(0, 0)", "rope(0, 1, 0)", "buyers(0, 0)", "girl(0, 1)", "slide(0, 1)", "unload(0, 1)", "cut(0)", "walkway(0, 1)",
            "even(0, 1, 0)", "box(0, 0, 0)", "reads(0, 1, 0, 0, 0)", "holds(0)", "dearest(0)", "rented(0, 1, 2)", "kind(0)", "as(0, 0)", "ask(0, 0)");
        x.is(STATE, "undo()", "restore(0)", "restore(1)").is(NONE, "trace(0)").is(0, "fault()", "status()");
        x.is(0, "count(0)", "count(1)", "count(2)", "count(3)", "count(4)", "count(5)", "count(6)");
    }

    static void rowsAreMissingAtFirst(Due due) {
        due.says(1, "1 ROWS 0 .. 7 are missing (at first),");
        Run x = new Run(due);
        for (int row = 0; row <= 7; row++) {
            x.is(NULL, "drop(" + row + ")", "set(" + row + ", 0, 0)");
        }
        x.is(0, "count(0)").is(BAD, "drop(8)", "drop(-1)");
    }

    // ---- 2

    static void rowHasALane(Due due) {
        due.says(2, "or have a LANE (0 bytes, 1 shorts, 2 ints)");
        Run x = new Run(due).is(1, "row(0, 0, 1)", "row(1, 1, 1)", "row(2, 2, 1)");
        x.is(64, "set(0, 0, 40000)").is(-25536, "set(1, 0, 40000)").is(40000, "set(2, 0, 40000)");
    }

    static void rowHasNoneTo40Items(Due due) {
        due.says(2, "and 0 to 40 ITEMS");
        for (int lane = 0; lane < 3; lane++) {
            Run x = new Run(due).is(0, "row(0, " + lane + ", 0)").is(PLACE, "set(0, 0, 1)").is(1, "count(0)");
            x.is(40, "row(0, " + lane + ", 40)").is(1, "set(0, 0, 1)", "set(0, 39, 1)").is(PLACE, "set(0, 40, 1)").is(40, "drop(0)");
        }
    }

    static void itemsAre0AtFirst(Due due) {
        due.says(2, ", 0 at first.");
        Run x = Run.told(due, TELLS_0);
        for (int lane = 0; lane < 3; lane++) {
            x.does("row(7, " + lane + ", 40)");
            for (int i = 0; i < 40; i++) {
                x.is(1, "whoCut(7, " + i + ")");
            }
        }
    }

    static void rowStandsInPlaceOfWhatIsThere(Due due) {
        due.says(2, "A ROW of a LANE with n ITEMS, in place of what is there: n.");
        Run x = Run.told(due, TELLS_0).does("row(0, 2, 40)", "set(0, 0, 5)", "set(0, 2, 5)", "set(0, 39, 5)").is(0, "whoCut(0, 0)");
        x.is(3, "row(0, 2, 3)").is(1, "whoCut(0, 0)", "whoCut(0, 2)").is(PLACE, "set(0, 3, 1)");
        x.is(40, "row(0, 2, 40)").is(1, "whoCut(0, 39)");
        x.is(1, "row(0, 0, 1)").is(-1, "set(0, 0, 255)").is(1, "count(0)");
        x.is(0, "row(0, 1, 0)").is(0, "drop(0)");
    }

    static void rowOfNoSuchNumber(Due due) {
        due.says(2, "BAD: ROW");
        Run x = new Run(due).is(BAD, "row(-1, 0, 1)", "row(8, 0, 1)", "row(" + MAX + ", 0, 1)", "row(" + MIN + ", 0, 1)").is(0, "count(0)");
        x.is(1, "row(0, 0, 1)", "row(7, 0, 1)").is(2, "count(0)");
    }

    static void rowOfNoSuchLane(Due due) {
        due.says(2, ", LANE,");
        new Run(due).is(BAD, "row(0, -1, 1)", "row(0, 3, 1)", "row(0, " + MAX + ", 1)", "row(0, " + MIN + ", 1)").is(0, "count(0)");
    }

    static void rowOfMoreThan40(Due due) {
        due.says(2, "n above 40;");
        new Run(due).is(BAD, "row(0, 0, 41)", "row(0, 2, " + MAX + ")").is(0, "count(0)").is(40, "row(0, 0, 40)");
    }

    static void rowOfFewerThanNone(Due due) {
        due.says(2, "SIZE.");
        Run x = Run.told(due, TELLS_20).row(0, 0, 20, 20);
        x.is(SIZE, "row(0, 0, -1)", "row(0, 2, " + MIN + ")", "row(1, 1, -40)").is(4, "status()");
        x.is(1, "whoCut(0, 0)", "whoCut(0, 1)").is(NULL, "drop(1)").is(1, "count(0)");
    }

    // ---- 3

    static void setKeepsTheLowestBits(Due due) {
        due.says(3, "ITEM i becomes v, its lowest bits, as many as the LANE has: what it is then.");
        Run x = new Run(due).does("row(0, 0, 2)", "row(1, 1, 2)", "row(2, 2, 2)");
        int[] v = {0, 1, -1, 127, 128, 255, 256, 300, -128, -129, 32767, 32768, 65535, 65536, -32768, -32769, MAX, MIN};
        int[] bytes = {0, 1, -1, 127, -128, -1, 0, 44, -128, 127, -1, 0, -1, 0, 0, -1, -1, 0};
        int[] shorts = {0, 1, -1, 127, 128, 255, 256, 300, -128, -129, 32767, -32768, -1, 0, -32768, 32767, -1, 0};
        for (int i = 0; i < v.length; i++) {
            x.is(bytes[i], "set(0, 1, " + v[i] + ")").is(shorts[i], "set(1, 1, " + v[i] + ")").is(v[i], "set(2, 1, " + v[i] + ")");
        }
    }

    static void setKeepsWhatItAnswers(Due due) {
        due.says(3, "what it is then.");
        Run x = Run.told(due, TELLS_20).does("row(0, 0, 3)", "row(1, 1, 3)", "row(2, 2, 3)");
        x.is(20, "set(0, 1, 276)", "set(1, 1, 65556)").is(1, "whoCut(0, 1)", "whoCut(1, 1)");
        x.is(276, "set(2, 1, 276)").is(0, "whoCut(2, 1)").is(0, "whoCut(0, 0)", "whoCut(0, 2)");
        x.is(7, "set(0, 1, 7)").is(0, "whoCut(0, 1)").is(0, "status()");
    }

    static void setOfNoSuchRow(Due due) {
        due.says(3, "BAD: ROW;");
        new Run(due).does("row(0, 0, 1)", "row(7, 0, 1)").is(BAD, "set(-1, 0, 1)", "set(8, 0, 1)", "set(" + MAX + ", 0, 1)", "set(" + MIN + ", 0, 1)");
    }

    static void setOfAMissingRow(Due due) {
        due.says(3, "NULL;");
        Run x = new Run(due).is(NULL, "set(0, 0, 1)", "set(7, -1, 1)").is(1, "status()");
        x.does("row(0, 0, 1)").is(1, "set(0, 0, 1)").is(0, "status()").does("drop(0)").is(NULL, "set(0, 0, 1)");
    }

    static void setAtNoSuchPlace(Due due) {
        due.says(3, "PLACE.");
        Run x = Run.told(due, TELLS_20).row(0, 1, 20).does("row(1, 0, 0)");
        x.is(PLACE, "set(0, -1, 1)", "set(0, 1, 1)", "set(0, 40, 1)", "set(0, " + MAX + ", 1)", "set(0, " + MIN + ", 1)", "set(1, 0, 1)").is(2, "status()");
        x.is(1, "whoCut(0, 0)");
    }

    // ---- 4

    static void copyBringsItems(Due due) {
        due.says(4, "n ITEMS of a from i on come to b from j on");
        Run x = Run.told(due, TELLS_20).row(0, 2, 1, 2, 20, 4).row(1, 2, 20, 0, 20);
        x.is(3, "copy(0, 1, 1, 0, 3)").is(0, "whoCut(1, 0)").is(1, "whoCut(1, 1)").is(0, "whoCut(1, 2)").is(1, "whoCut(0, 2)");
        x.is(1, "copy(1, 1, 0, 3, 1)").is(1, "whoCut(0, 3)", "whoCut(0, 2)").is(0, "whoCut(0, 1)").is(0, "status()");
    }

    static void copyOfNoneAndOfAll(Due due) {
        due.says(4, ": n.");
        Run x = Run.told(due, TELLS_20).does("row(0, 0, 40)", "row(1, 0, 40)", "set(0, 39, 20)", "row(2, 0, 0)");
        x.is(0, "copy(0, 39, 1, 0, 0)", "copy(0, 40, 1, 40, 0)", "copy(2, 0, 2, 0, 0)", "copy(2, 0, 1, 40, 0)").is(0, "whoCut(1, 0)");
        x.is(40, "copy(0, 0, 1, 0, 40)").is(1, "whoCut(1, 39)").is(0, "whoCut(1, 38)");
    }

    static void copyWithinARowTakesThemAsTheyWere(Due due) {
        due.says(4, ", as they were ahead");
        Run x = Run.told(due, TELLS_20).row(0, 0, 20, 1, 2, 3, 4).is(4, "copy(0, 0, 0, 1, 4)");
        x.is(1, "whoCut(0, 0)", "whoCut(0, 1)").is(0, "whoCut(0, 2)", "whoCut(0, 3)", "whoCut(0, 4)");
        x.row(0, 0, 1, 2, 3, 4, 20).is(4, "copy(0, 1, 0, 0, 4)");
        x.is(1, "whoCut(0, 3)", "whoCut(0, 4)").is(0, "whoCut(0, 0)", "whoCut(0, 1)", "whoCut(0, 2)");
        x.row(0, 0, 20, 7).is(2, "copy(0, 0, 0, 0, 2)").is(1, "whoCut(0, 0)").is(0, "whoCut(0, 1)");
    }

    static void copyOfNoSuchRows(Due due) {
        due.says(4, "BAD: ROWS;");
        Run x = new Run(due).does("row(0, 0, 1)", "row(7, 0, 1)").is(1, "copy(0, 0, 7, 0, 1)", "copy(7, 0, 0, 0, 1)");
        x.is(BAD, "copy(-1, 0, 0, 0, 1)", "copy(8, 0, 0, 0, 1)", "copy(0, 0, -1, 0, 1)", "copy(0, 0, 8, 0, 1)", "copy(" + MIN + ", 0, " + MAX + ", 0, 1)");
    }

    static void copyOfMissingRows(Due due) {
        due.says(4, "NULL;");
        Run x = new Run(due).does("row(0, 0, 1)").is(NULL, "copy(0, 0, 1, 0, 1)", "copy(1, 0, 0, 0, 1)", "copy(1, 0, 1, 0, 0)", "copy(0, 0, 1, 0, 0)");
        x.is(1, "status()").is(1, "count(0)");
    }

    static void copyBetweenTwoLanes(Due due) {
        due.says(4, "STORE;");
        Run x = Run.told(due, TELLS_20).row(0, 0, 20).row(1, 1, 0).row(2, 2, 0);
        x.is(STORE, "copy(0, 0, 1, 0, 1)", "copy(1, 0, 0, 0, 1)", "copy(1, 0, 2, 0, 1)", "copy(2, 0, 0, 0, 1)", "copy(0, 0, 1, 0, 0)", "copy(0, 0, 1, 0, -1)");
        x.is(5, "status()").is(0, "whoCut(1, 0)", "whoCut(2, 0)").is(1, "whoCut(0, 0)");
    }

    static void copyBelow0(Due due) {
        due.says(4, "PLACE (i, j, n below 0");
        Run x = new Run(due).does("row(0, 1, 3)", "row(1, 1, 2)");
        x.is(PLACE, "copy(0, -1, 1, 0, 1)", "copy(0, 0, 1, -1, 1)", "copy(0, 0, 1, 0, -1)", "copy(0, 1, 1, 1, -1)", "copy(0, -1, 1, 0, 0)");
        x.is(PLACE, "copy(0, " + MIN + ", 1, 0, 1)", "copy(0, 0, 1, " + MIN + ", 1)", "copy(0, 0, 1, 0, " + MIN + ")").is(2, "status()");
    }

    static void copyBeyondAnEnd(Due due) {
        due.says(4, ", or beyond an end).");
        Run x = Run.told(due, TELLS_20).row(0, 1, 20, 20, 20).row(1, 1, 7, 7);
        x.is(PLACE, "copy(0, 3, 1, 0, 1)", "copy(0, 4, 1, 0, 0)", "copy(0, 2, 1, 0, 2)", "copy(0, 0, 1, 2, 1)", "copy(0, 0, 1, 3, 0)", "copy(0, 0, 1, 1, 2)",
            "copy(0, 0, 1, 0, 3)", "copy(1, 0, 0, 0, 3)", "copy(1, 1, 0, 0, 2)", "copy(0, 0, 0, 1, 3)");
        x.is(PLACE, "copy(0, " + MAX + ", 1, 0, 1)", "copy(0, 0, 1, " + MAX + ", 1)", "copy(0, 1, 1, 1, " + MAX + ")",
            "copy(0, " + MAX + ", 1, " + MAX + ", " + MAX + ")").is(2, "status()");
        x.is(0, "whoCut(1, 0)", "whoCut(1, 1)").is(2, "copy(0, 1, 1, 0, 2)");
    }

    // ---- 5

    static void dropLeavesARowMissing(Due due) {
        due.says(5, "A ROW is missing from now on: how many ITEMS it had.");
        Run x = new Run(due).does("row(5, 0, 17)", "row(0, 2, 40)", "row(7, 1, 0)").is(3, "count(0)");
        x.is(17, "drop(5)").is(2, "count(0)").is(NULL, "set(5, 0, 0)", "copy(5, 0, 5, 0, 0)");
        x.is(40, "drop(0)").is(0, "drop(7)").is(0, "count(0)").is(0, "status()");
    }

    static void dropOfNoSuchRow(Due due) {
        due.says(5, "BAD;");
        new Run(due).does("row(0, 0, 1)", "row(7, 0, 1)").is(BAD, "drop(-1)", "drop(8)", "drop(" + MAX + ")", "drop(" + MIN + ")").is(2, "count(0)");
    }

    static void dropOfAMissingRow(Due due) {
        due.says(5, "NULL.");
        new Run(due).is(NULL, "drop(3)").is(1, "status()").does("row(3, 0, 0)").is(0, "drop(3)").is(NULL, "drop(3)");
    }

    // ---- 39

    static void statusOfEachCallWithARow(Due due) {
        due.says(39, "Of the latest call with a ROW");
        Run x = Run.told(due, "m99,0;l20;t0,4,19;n0,5,3;").does("row(0, 1, 2)", "row(1, 0, 2)");
        String[] found = {"drop(3)", "row(3, 0, -1)", "set(0, 9, 1)", "copy(0, 0, 1, 0, 1)", "whoCut(3, 0)", "reads(0, 1, 0, 1, 0)"};
        int[] numbers = {1, 4, 2, 5, 1, 2};
        String[] fine = {"row(4, 0, 1)", "set(0, 1, 1)", "copy(0, 0, 0, 1, 1)", "whoCut(0, 0)", "reads(0, 1, 0, 0, 0)", "drop(4)"};
        for (int i = 0; i < found.length; i++) {
            x.is(-1000010 - numbers[i], found[i]).is(numbers[i], "status()", "status()").does(fine[i]).is(0, "status()");
        }
    }

    static void statusOfAs(Due due) {
        due.says(39, ", or as(),");
        Run x = Run.told(due, "m99,0;l20;t0,4,19;").is(KIND, "as(0, 4)").is(3, "status()").is(0, "as(0, 1)").is(0, "status()");
        x.is(NULL, "drop(0)").is(1, "status()").is(0, "as(0, 0)").is(0, "status()");
    }

    static void statusPassesOverRefusals(Due due) {
        due.says(39, "that was not BAD, STATE, FULL:");
        Run x = new Run(due).is(SIZE, "row(0, 0, -1)");
        x.is(BAD, "row(8, 0, 1)", "set(8, 0, 1)", "copy(8, 0, 0, 0, 0)", "drop(8)").is(STATE, "whoCut(0, 0)").is(4, "status()");
        x = Run.told(due, "m99,0;l20;t0,4,19;").is(NULL, "drop(0)");
        x.is(BAD, "whoCut(8, 0)", "reads(0, 0, 0, 0, 0)", "as(0, 6)", "as(1, 0)").is(1, "status()");
        x = new Run(due).does("row(0, 0, 1)").is(BAD, "row(0, 3, 1)").is(0, "status()");
    }

    static void statusPassesOverOtherCalls(Due due) {
        due.says(39, "the number of its FINDING;");
        Run x = Run.told(due, "m99,0;l20;l9;t0,4,19;t1,4,3;v1,5,3;").is(NULL, "drop(0)");
        x.does("rain()", "undo()", "ask(0, 0)", "kind(0)", "image(0)", "restore(0)", "cut(0)", "stall(0, 0)", "rope(0, 1, 0)", "drops()", "walkways(0)");
        x.does("girl(0, 1)", "buyers(0, 1)", "slide(0, 8)", "unload(0, 1)", "box(0, 0, 0)", "dearest(0)", "unloaded(-1)", "bestSlide(0)", "wind(1, 1, -1)");
        x.is(STATE, "unload(0, 1)", "restore(1)").is(BAD, "girl(9, 1)").is(1, "status()").does("feed(1)").is(-1000100, "market()").is(1, "status()");
    }

    static void statusWithoutAFinding(Due due) {
        due.says(39, "0: it had none, or there was none.");
        new Run(due).is(0, "status()").does("row(0, 0, 1)").is(0, "status()").is(PLACE, "set(0, 1, 0)").is(2, "status()").does("set(0, 0, 0)").is(0, "status()");
    }
}
