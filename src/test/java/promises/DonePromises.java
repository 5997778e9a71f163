/** Promises 10 to 18: what is done, and how deep all hangs then. */
final class DonePromises {
    private static final int BAD = Due.BAD, STATE = Due.STATE, FULL = Due.FULL, NONE = Due.NONE;
    private static final int MAX = Integer.MAX_VALUE, MIN = Integer.MIN_VALUE;
    private static final String ALL_SORTS = "m99,0;l20;t0,4,9;j0,5,9;b0,6,9;n0,7,9;v0,8,9;";

    private DonePromises() {
    }

    // ---- 10

    static void buyersOfAStall(Due due) {
        due.says(10, "BUYERS of a STALL (0 to 20)");
        Run x = Run.told(due, ALL_SORTS);
        for (int i = 0; i < 5; i++) {
            x.does("buyers(" + i + ", 20)").is(20, "stall(" + i + ", 3)").does("buyers(" + i + ", 0)").is(0, "stall(" + i + ", 3)");
        }
        x.is(BAD, "buyers(1, -1)", "buyers(1, 21)", "buyers(1, " + MAX + ")", "buyers(1, " + MIN + ")").is(10, "count(5)");
    }

    static void buyersAnswersHowManyItHad(Due due) {
        due.says(10, ": how many it had.");
        Run x = Run.told(due, ALL_SORTS).is(0, "buyers(1, 20)").is(20, "buyers(1, 7)").is(7, "buyers(1, 0)").is(0, "buyers(1, 1)").is(0, "buyers(0, 1)");
    }

    static void buyersOfNoSuchStall(Due due) {
        due.says(10, "BAD.");
        Run.told(due, ALL_SORTS).is(BAD, "buyers(5, 1)", "buyers(-1, 1)", "buyers(6, 1)", "buyers(" + MAX + ", 1)", "buyers(" + MIN + ", 1)").is(0, "count(5)");
        new Run(due).is(BAD, "buyers(0, 1)");
    }

    static void buyersAreAnAct(Due due) {
        due.says(10, "BUYERS of a STALL are so many;");
        Run x = Run.told(due, ALL_SORTS).does("buyers(2, 5)").is(1, "count(5)").is(23, "stall(2, 6)").is(0, "undo()").is(0, "stall(2, 3)").is(18, "stall(2, 6)");
        x.is(0, "buyers(2, 0)").is(1, "count(5)");
    }

    // ---- 11

    static void girlsComeAndGo(Due due) {
        due.says(11, "A girl is HIRED (1), goes (-1): how many stand there.");
        Run x = Run.told(due, ALL_SORTS).is(1, "girl(2, 1)").is(2, "girl(2, 1)").is(1, "girl(2, -1)").is(1, "stall(2, 4)").is(0, "stall(1, 4)").is(0, "girl(2, -1)");
    }

    static void girlsBadly(Due due) {
        due.says(11, "BAD;");
        Run x = Run.told(due, ALL_SORTS).does("girl(2, 1)");
        x.is(BAD, "girl(2, 0)", "girl(2, 2)", "girl(2, -2)", "girl(2, " + MAX + ")", "girl(2, " + MIN + ")", "girl(5, 1)", "girl(-1, 1)", "girl(5, -1)");
        x.is(1, "stall(2, 4)").is(1, "count(5)");
        new Run(due).is(BAD, "girl(0, 1)", "girl(0, -1)");
    }

    static void noGirlCanGo(Due due) {
        due.says(11, "STATE: none is there;");
        Run.told(due, ALL_SORTS).is(STATE, "girl(2, -1)").does("girl(2, 1)").is(0, "girl(2, -1)").is(STATE, "girl(2, -1)").is(0, "stall(2, 4)").is(2, "count(5)");
    }

    static void nineGirlsAtMost(Due due) {
        due.says(11, "FULL: 9.");
        Run x = Run.told(due, ALL_SORTS).times(8, "girl(2, 1)").is(9, "girl(2, 1)").is(FULL, "girl(2, 1)").is(9, "stall(2, 4)").is(9, "count(5)");
        x.is(1, "girl(1, 1)").is(8, "girl(2, -1)").is(9, "girl(2, 1)").is(FULL, "girl(2, 1)");
    }

    static void aGirlIsAnAct(Due due) {
        due.says(11, "a girl is HIRED for one (1 more), goes (1 less);");
        Run x = Run.told(due, ALL_SORTS).does("girl(3, 1)").is(1, "count(5)").is(10, "stall(3, 6)").does("girl(3, -1)").is(2, "count(5)").is(9, "stall(3, 6)");
        x.is(1, "undo()").is(1, "stall(3, 4)").is(0, "undo()").is(0, "stall(3, 4)");
    }

    // ---- 12

    static void aStallSlides(Due due) {
        due.says(12, "A STALL slides: its PLACE ahead.");
        Run x = Run.told(due, "m99,0;l20;l20;t0,4,9;j0,5,9;t1,7,9;");
        x.is(4, "slide(0, 7)").is(7, "stall(0, 1)").is(7, "slide(0, 1)").is(1, "slide(0, 8)").is(8, "stall(0, 1)").is(0, "rope(0, 8, 3)");
        x.is(NONE, "rope(0, 4, 3)").is(5, "slide(1, 4)");
    }

    static void aStallSlidesBadly(Due due) {
        due.says(12, "BAD;");
        Run x = Run.told(due, ALL_SORTS).is(BAD, "slide(0, 0)", "slide(0, 9)", "slide(0, -1)", "slide(0, " + MAX + ")", "slide(0, " + MIN + ")");
        x.is(BAD, "slide(5, 1)", "slide(-1, 1)").is(0, "count(5)").is(4, "stall(0, 1)");
        new Run(due).is(BAD, "slide(0, 1)");
    }

    static void anotherStallIsThere(Due due) {
        due.says(12, "STATE: another one is there,");
        Run x = Run.told(due, "m99,0;l20;l20;t0,4,9;j0,5,9;t1,7,9;").is(STATE, "slide(0, 5)", "slide(1, 4)").is(0, "count(5)");
        x.is(4, "slide(0, 7)").is(STATE, "slide(1, 7)").is(5, "slide(1, 4)").is(7, "slide(2, 4)");
    }

    static void theStallIsThereItself(Due due) {
        due.says(12, "it is there itself.");
        Run.told(due, "m99,0;l20;t0,4,9;").is(STATE, "slide(0, 4)").is(0, "count(5)").is(4, "slide(0, 5)").is(STATE, "slide(0, 5)").is(5, "slide(0, 4)");
    }

    static void aSlideIsAnAct(Due due) {
        due.says(12, "a STALL slides to another PLACE of its ROPE;");
        Run x = Run.told(due, "m99,0;l20;l20;t1,4,10;").does("slide(0, 1)").is(1, "count(5)").is(1, "stall(0, 0)").is(4, "stall(0, 7)", "rope(1, 1, 0)");
        x.is(0, "undo()").is(4, "stall(0, 1)").is(10, "stall(0, 7)");
    }

    // ---- 13

    static void waresAreTakenOffAndBroughtBack(Due due) {
        due.says(13, "WARES are taken off (1), brought back (0): its WEIGHT.");
        Run x = Run.told(due, ALL_SORTS).does("buyers(2, 3)", "girl(2, 1)").is(4, "unload(2, 1)").is(1, "stall(2, 5)").is(9, "stall(2, 2)");
        x.is(22, "unload(2, 0)").is(0, "stall(2, 5)").is(0, "unload(4, 1)").is(-9, "unload(4, 0)");
    }

    static void unloadBadly(Due due) {
        due.says(13, "BAD;");
        Run.told(due, ALL_SORTS).is(BAD, "unload(2, 2)", "unload(2, -1)", "unload(2, " + MAX + ")", "unload(2, " + MIN + ")", "unload(5, 1)", "unload(-1, 1)")
            .is(0, "count(5)");
        new Run(due).is(BAD, "unload(0, 1)");
    }

    static void waresAreSo(Due due) {
        due.says(13, "STATE: it is so.");
        Run x = Run.told(due, ALL_SORTS).is(STATE, "unload(2, 0)").does("unload(2, 1)").is(STATE, "unload(2, 1)").does("unload(2, 0)").is(STATE, "unload(2, 0)");
        x.is(2, "count(5)").does("unload(0, 1)").is(18, "stall(2, 6)");
    }

    static void unloadIsAnAct(Due due) {
        due.says(13, "its WARES are taken off, brought back;");
        Run x = Run.told(due, ALL_SORTS).does("unload(0, 1)", "unload(0, 0)").is(2, "count(5)").is(1, "undo()").is(1, "stall(0, 5)").is(0, "stall(0, 6)");
        x.is(0, "undo()").is(0, "stall(0, 5)").is(9, "stall(0, 6)");
    }

    static void waresThatAreOffAre0(Due due) {
        due.says(13, "WARES that are taken off are 0.");
        Run x = Run.told(due, ALL_SORTS);
        int[] left = {8, 8, 8, 1, 1};
        for (int i = 0; i < 5; i++) {
            x.is(0, "unload(" + i + ", 1)").does("buyers(" + i + ", 7)", "girl(" + i + ", 1)").is(left[i], "stall(" + i + ", 6)");
        }
    }

    // ---- 14

    static void itRains(Due due) {
        due.says(14, "It rains: SLACK.");
        Run x = Run.told(due, "m99,0;l20;l20;t0,4,4;").is(1, "rain()").is(2, "rain()").is(2, "count(4)").is(6, "rope(0, 4, 0)").is(2, "rope(1, 4, 0)");
    }

    static void rainWithoutAMarket(Due due) {
        due.says(14, "STATE: no MARKET;");
        new Run(due).is(STATE, "rain()").is(0, "count(4)", "count(5)");
    }

    static void rainUpTo99(Due due) {
        due.says(14, "FULL: 99.");
        Run x = Run.told(due, "m99,20;l20;");
        for (int slack = 21; slack <= 99; slack++) {
            x.is(slack, "rain()");
        }
        x.is(FULL, "rain()", "rain()").is(99, "count(4)", "rope(0, 3, 0)").is(23, "undo()").is(99, "rain()").is(FULL, "rain()");
    }

    static void rainIsAnAct(Due due) {
        due.says(14, "it rains (SLACK 1 more);");
        Run.told(due, "m99,7;l20;").is(8, "rain()").is(1, "count(5)").is(0, "undo()").is(7, "count(4)");
    }

    // ---- 15

    static void aStrandIsCut(Due due) {
        due.says(15, "A strand is cut: TAUT.");
        Run x = Run.told(due, "m99,0;l3;l20;t0,4,1;").is(6, "rope(0, 4, 0)").is(2, "cut(0)").is(10, "rope(0, 4, 0)").is(1, "cut(0)").is(20, "rope(0, 4, 0)");
        x.is(20, "rope(1, 1, 2)").is(19, "cut(1)");
    }

    static void cutOfNoSuchRope(Due due) {
        due.says(15, "BAD;");
        Run.told(due, "m99,0;l3;l20;").is(BAD, "cut(2)", "cut(-1)", "cut(3)", "cut(" + MAX + ")", "cut(" + MIN + ")").is(0, "count(5)");
        new Run(due).is(BAD, "cut(0)");
    }

    static void theLastStrandStays(Due due) {
        due.says(15, "STATE: TAUT is 1.");
        Run.told(due, "m99,0;l2;l1;").is(STATE, "cut(1)").is(1, "cut(0)").is(STATE, "cut(0)", "cut(0)").is(1, "rope(0, 1, 2)", "rope(1, 1, 2)", "count(5)");
    }

    static void aCutIsAnAct(Due due) {
        due.says(15, "a strand of a ROPE is cut (TAUT 1 less).");
        Run.told(due, "m99,0;l9;l5;").is(4, "cut(1)").is(3, "cut(1)").is(2, "count(5)").is(1, "undo()").is(4, "rope(1, 1, 2)").is(0, "undo()")
            .is(5, "rope(1, 1, 2)").is(9, "rope(0, 1, 2)");
    }

    // ---- 16

    static void whatAStallTells(Due due) {
        due.says(16, "Of a STALL: 0 ROPE, 1 PLACE, 2 GOODS, 3 BUYERS, 4 GIRLS, 5 whether WARES are taken off (1, 0), 6 WEIGHT, 7 DEPTH, 8 PRICE.");
        Run x = Run.told(due, "m99,3;l20;l10;t1,4,12;n0,1,2;").does("buyers(0, 5)", "girl(0, 1)", "girl(0, 1)");
        // sag 19 * 20 / 10 + 3 = 41; of rope 0 there: 2 * 1 * 5 / 20 + 3 = 3
        int[] due0 = {1, 4, 12, 5, 2, 0, 19, 41, 4};
        for (int what = 0; what < due0.length; what++) {
            x.is(due0[what], "stall(0, " + what + ")");
        }
        x.does("unload(0, 1)").is(1, "stall(0, 5)").is(7, "stall(0, 6)").is(17, "stall(0, 7)").is(9, "stall(0, 8)").is(12, "stall(0, 2)");
    }

    static void noSuchStallOrWhat(Due due) {
        due.says(16, "BAD.");
        Run x = Run.told(due, ALL_SORTS).is(BAD, "stall(0, 9)", "stall(0, -1)", "stall(0, " + MAX + ")", "stall(0, " + MIN + ")");
        for (int what = 0; what < 9; what++) {
            x.is(BAD, "stall(5, " + what + ")", "stall(-1, " + what + ")", "stall(" + MAX + ", " + what + ")", "stall(" + MIN + ", " + what + ")");
        }
        new Run(due).is(BAD, "stall(0, 0)");
    }

    static void weightIsWaresAndBuyersAndGirls(Due due) {
        due.says(16, "2 WEIGHT of a STALL: its WARES and BUYERS and GIRLS:");
        Run x = Run.told(due, "m99,0;l20;t0,4,9;").is(9, "stall(0, 6)").does("buyers(0, 20)").is(29, "stall(0, 6)").times(9, "girl(0, 1)").is(38, "stall(0, 6)");
        x.is(29, "unload(0, 1)");
    }

    static void waresOfATable(Due due) {
        due.says(16, "WARES of a table GOODS,");
        Run.told(due, "m99,0;l20;t0,4,0;t0,5,1;t0,6,20;").is(0, "stall(0, 6)").is(1, "stall(1, 6)").is(20, "stall(2, 6)");
    }

    static void waresOfAJeweller(Due due) {
        due.says(16, "of a jeweller half (cut),");
        Run.told(due, "m99,0;l20;j0,1,0;j0,2,1;j0,3,2;j0,4,19;j0,5,20;").is(0, "stall(0, 6)", "stall(1, 6)").is(1, "stall(2, 6)").is(9, "stall(3, 6)")
            .is(10, "stall(4, 6)").does("buyers(1, 3)").is(3, "stall(1, 6)");
    }

    static void waresOfAButcher(Due due) {
        due.says(16, "of a butcher twice;");
        Run.told(due, "m99,0;l20;b0,4,0;b0,5,1;b0,6,20;").is(0, "stall(0, 6)").is(2, "stall(1, 6)").is(40, "stall(2, 6)").does("buyers(2, 20)").is(60, "stall(2, 6)");
    }

    static void waresOfANotary(Due due) {
        due.says(16, "of a notary GOODS, but BUYERS do not count;");
        Run x = Run.told(due, "m99,0;l20;n0,4,0;n0,5,20;").is(0, "stall(0, 6)").is(20, "stall(1, 6)").does("buyers(1, 20)").is(20, "stall(1, 6)").is(20, "stall(1, 3)");
        x.does("girl(1, 1)").is(21, "stall(1, 6)").is(1, "unload(1, 1)");
    }

    static void waresOfAVulture(Due due) {
        due.says(16, "of a vulture 0 less GOODS, BUYERS do not count.");
        Run x = Run.told(due, "m99,0;l20;v0,4,0;v0,5,20;").is(0, "stall(0, 6)").is(-20, "stall(1, 6)").does("buyers(1, 20)").is(-20, "stall(1, 6)").is(20, "stall(1, 3)");
        x.does("girl(1, 1)").is(-19, "stall(1, 6)").is(1, "unload(1, 1)");
    }

    static void priceIsGoodsLessDepthBy5(Due due) {
        due.says(16, "LEAN: the PRICE of a STALL: GOODS less its DEPTH by 5 (cut)");
        Run x = Run.told(due, "m99,0;l20;t0,4,14;").is(12, "stall(0, 8)").does("girl(0, 1)").is(11, "stall(0, 8)").times(4, "girl(0, 1)").is(11, "stall(0, 8)");
        x.does("girl(0, 1)").is(10, "stall(0, 8)");
        Run.told(due, "m99,0;l20;v0,4,4;").is(4, "stall(0, 8)");
        Run.told(due, "m99,0;l20;v0,4,5;").is(6, "stall(0, 8)");
        Run.told(due, "m99,0;l20;v0,4,9;").is(10, "stall(0, 8)").does("unload(0, 1)").is(9, "stall(0, 8)");
    }

    static void priceIs0AtLeast(Due due) {
        due.says(16, ", 0 at least;");
        Run x = Run.told(due, "m99,5;l20;t0,4,0;").is(0, "stall(0, 8)");
        x = Run.told(due, "m99,4;l20;t0,4,1;").is(0, "stall(0, 8)").does("rain()", "buyers(0, 20)").is(0, "stall(0, 8)");
        Run.told(due, "m99,3;l20;t0,4,1;").is(1, "stall(0, 8)");
        Run.told(due, "m99,0;l1;b0,4,20;").is(0, "stall(0, 8)");
    }

    // ---- 17

    static void whatARopeTells(Due due) {
        due.says(17, "Of a ROPE at a PLACE: SAG (what = 0), DEPTH (1), TAUT (2), who is there (3; NONE).");
        Run x = Run.told(due, "m99,0;l20;l7;t0,4,8;t1,4,12;");
        x.is(8, "rope(0, 4, 0)").is(0, "rope(0, 4, 1)").is(20, "rope(0, 4, 2)").is(0, "rope(0, 4, 3)");
        x.is(34, "rope(1, 4, 0)").is(32, "rope(1, 4, 1)").is(7, "rope(1, 4, 2)", "rope(1, 8, 2)").is(1, "rope(1, 4, 3)");
        x.is(NONE, "rope(1, 3, 3)", "rope(1, 5, 3)", "rope(0, 1, 3)", "rope(0, 8, 3)").does("slide(1, 8)").is(1, "rope(1, 8, 3)").is(NONE, "rope(1, 4, 3)");
    }

    static void noSuchRopeOrPlaceOrWhat(Due due) {
        due.says(17, "BAD.");
        Run x = Run.told(due, "m99,0;l20;l7;t0,4,8;");
        x.is(BAD, "rope(2, 1, 0)", "rope(-1, 1, 0)", "rope(3, 1, 2)", "rope(" + MAX + ", 1, 2)", "rope(" + MIN + ", 1, 2)");
        x.is(BAD, "rope(0, 0, 0)", "rope(0, 9, 0)", "rope(0, -1, 2)", "rope(0, " + MAX + ", 1)", "rope(0, " + MIN + ", 3)");
        x.is(BAD, "rope(0, 1, 4)", "rope(0, 1, -1)", "rope(0, 1, " + MAX + ")", "rope(0, 1, " + MIN + ")");
        new Run(due).is(BAD, "rope(0, 1, 0)", "rope(0, 1, 2)");
    }

    static void sagOfOneStallAtEachPlace(Due due) {
        due.says(17, "SAG of a ROPE at a PLACE x (1 to 8): for each STALL on it, at PLACE y: WEIGHT times the lesser of x, y, times (9 less the greater of them);");
        Run x = Run.told(due, "m99,0;l1;l1;t0,3,1;");
        int[] at3 = {6, 12, 18, 15, 12, 9, 6, 3};
        int[] at1 = {8, 7, 6, 5, 4, 3, 2, 1};
        int[] at8 = {1, 2, 3, 4, 5, 6, 7, 8};
        for (int i = 0; i < 8; i++) {
            x.is(at3[i], "rope(0, " + (i + 1) + ", 0)").is(0, "rope(1, " + (i + 1) + ", 0)");
        }
        x.does("slide(0, 1)");
        for (int i = 0; i < 8; i++) {
            x.is(at1[i], "rope(0, " + (i + 1) + ", 0)");
        }
        x.does("slide(0, 8)");
        for (int i = 0; i < 8; i++) {
            x.is(at8[i], "rope(0, " + (i + 1) + ", 0)");
        }
    }

    static void sagsAreAddedAheadOfTheCut(Due due) {
        due.says(17, "all these added, by TAUT (cut); SLACK more.");
        Run.told(due, "m99,0;l5;t0,1,1;t0,2,1;").is(3, "rope(0, 1, 0)").is(4, "rope(0, 2, 0)");
        Run.told(due, "m99,2;l7;t0,3,10;").is(60 / 7 + 2, "rope(0, 1, 0)").is(180 / 7 + 2, "rope(0, 3, 0)");
        Run.told(due, "m99,2;l7;v0,3,10;").is(-8 + 2, "rope(0, 1, 0)").is(-4 + 2, "rope(0, 8, 0)");
        Run.told(due, "m99,20;l20;").is(20, "rope(0, 1, 0)", "rope(0, 8, 0)");
        Run.told(due, "m99,0;l1;b0,4,20;b0,5,20;").does("buyers(0, 20)").is(60 * 20 + 40 * 16, "rope(0, 4, 0)");
        Run.told(due, "m99,1;l20;t0,4,5;v0,5,6;").is((100 - 96) / 20 + 1, "rope(0, 4, 0)");
    }

    static void depthIsSagLessAFourthOfTheNeighbours(Due due) {
        due.says(17, "DEPTH there: SAG less a fourth (cut towards 0) of SAGS at x, added, of ROPES of one number less, one more.");
        Run.told(due, "m99,0;l20;l20;t0,4,8;t1,4,12;").is(5, "rope(0, 4, 1)").is(10, "rope(1, 4, 1)").is(6 - 9 / 4, "rope(0, 5, 1)");
        Run.told(due, "m99,0;l20;l20;l20;t0,4,2;t1,4,1;t2,4,2;").is(0, "rope(1, 4, 1)").is(2, "rope(0, 4, 1)", "rope(2, 4, 1)");
        Run.told(due, "m99,0;l20;l20;v1,4,3;").is(0, "rope(0, 4, 1)").is(-3, "rope(1, 4, 1)");
        Run.told(due, "m99,0;l20;l20;v1,4,7;").is(1, "rope(0, 4, 1)");
        Run.told(due, "m99,0;l20;l20;l20;t0,4,20;").is(20, "rope(0, 4, 1)").is(-5, "rope(1, 4, 1)").is(0, "rope(2, 4, 1)");
        Run.told(due, "m99,8;l20;").is(8, "rope(0, 4, 1)");
        Run.told(due, "m99,8;l20;l20;l20;").is(6, "rope(0, 4, 1)", "rope(2, 4, 1)").is(4, "rope(1, 4, 1)");
    }

    // ---- 18

    static void stallsThatDrop(Due due) {
        due.says(18, "STALLS that DROP (bits).");
        Run x = Run.told(due, "m10,0;l20;l20;t0,4,8;t1,4,12;").is(0, "drops()").does("girl(1, 1)").is(2, "drops()").does("buyers(0, 20)").is(1, "drops()");
        x.does("undo()", "undo()").is(0, "drops()");
        Run.told(due, "m0,20;l1;").is(0, "drops()");
        Run.told(due, "m0,1;l1;t0,1,1;t0,2,1;t0,3,1;t0,4,1;t0,5,1;v0,6,0;").is(63, "drops()");
    }

    static void dropsWithoutAMarket(Due due) {
        due.says(18, "STATE: no MARKET.");
        new Run(due).is(STATE, "drops()");
        Run.told(due, "m0,0;l1;").is(0, "drops()");
    }

    static void aStallHangsAtTheDepthOfItsPlace(Due due) {
        due.says(16, "A STALL hangs at the DEPTH of its PLACE;");
        Run x = Run.told(due, "m10,3;l7;l6;l5;t0,4,8;b1,4,12;v2,2,5;j2,8,19;");
        int[][] where = {{0, 4}, {1, 4}, {2, 2}, {2, 8}};
        for (int i = 0; i < 4; i++) {
            x.is(x.answer("rope(" + where[i][0] + ", " + where[i][1] + ", 1)"), "stall(" + i + ", 7)");
        }
        x.does("slide(0, 1)").is(x.answer("rope(0, 1, 1)"), "stall(0, 7)");
    }

    static void aStallDropsAboveLow(Due due) {
        due.says(18, "it DROPS, if that is above LOW.");
        Run.told(due, "m12,0;l20;t0,4,12;").is(0, "drops()").does("girl(0, 1)").is(1, "drops()");
        Run.told(due, "m0,0;l20;t0,4,0;").is(0, "drops()").does("rain()").is(1, "drops()");
        Run.told(due, "m99,19;l1;t0,4,4;").is(0, "drops()").does("rain()").is(1, "drops()");
        Run.told(due, "m0,0;l1;v0,4,20;").is(0, "drops()");
    }
}
