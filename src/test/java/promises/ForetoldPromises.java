/** Promises 19 to 33: what is foretold, and images. */
final class ForetoldPromises {
    private static final int BAD = Due.BAD, STATE = Due.STATE, NONE = Due.NONE, NULL = Due.NULL, PLACE = Due.PLACE;
    private static final int MAX = Integer.MAX_VALUE, MIN = Integer.MIN_VALUE;

    private ForetoldPromises() {
    }

    static void nothingChanges(Due due) {
        due.says(23, "3 FORETOLD (nothing changes).");
        String[] calls = {"walkway(0, 1)", "walkways(1)", "even(0, 1, 0)", "even(3, 1, 1)", "bestSlide(0)", "unloaded(-1)", "unloaded(0)", "whoCut(0, 0)",
            "box(1, 3, 0)", "box(3, 3, 1)", "reads(0, 3, 0, 0, 0)", "reads(1, 2, 0, 0, 1)", "holds(0)", "holds(2)", "falls(0)", "dearest(2)", "dearest(4)",
            "rented(2, 0, 1)", "rented(2, 3, 1)", "wind(40, 20, -1)", "wind(40, 20, 1)"};
        for (String call : calls) {
            Run called = acted(due);
            called.answer(call);
            Look.alike(due, call, acted(due), called);
        }
    }

    private static Run acted(Due due) {
        Run x = Run.told(due, "m20,1;l5;l6;l7;j0,4,9;b1,4,4;n1,5,7;v2,4,9;t2,5,8;").does("row(0, 1, 5)", "image(1)", "ask(0, 0)");
        return x.does("unload(1, 1)", "girl(0, 1)", "buyers(4, 3)", "rain()", "cut(2)");
    }

    // ---- 19

    static void aWalkwayIsBetweenTwo(Due due) {
        due.says(19, "Whether a WALKWAY is between two (0: none; 1: it does not MEET, 2: it MEETS).");
        Run x = Run.told(due, "m99,0;l20;l20;t0,4,8;t1,4,9;").is(2, "walkway(0, 1)", "walkway(1, 0)").does("girl(1, 1)").is(1, "walkway(0, 1)", "walkway(1, 0)");
        x.does("slide(0, 3)").is(0, "walkway(0, 1)", "walkway(1, 0)");
    }

    static void aWalkwayIsBetweenRopesOneApartAtOnePlace(Due due) {
        due.says(19, "A WALKWAY is between two STALLS on ROPES of numbers one apart, at one PLACE;");
        Run x = Run.told(due, "m99,0;l20;l20;l20;t0,4,8;t1,4,12;t2,4,8;t0,5,0;t1,6,0;");
        x.is(1, "walkway(0, 1)", "walkway(1, 2)", "walkway(2, 1)").is(0, "walkway(0, 2)", "walkway(2, 0)", "walkway(0, 3)", "walkway(3, 4)", "walkway(1, 4)");
    }

    static void aWalkwayMeetsIfDepthsAre1ApartAtMost(Due due) {
        due.says(19, "it MEETS, if their DEPTHS are 1 apart at most.");
        Run.told(due, "m99,0;l20;l20;t0,4,8;t1,4,8;").is(6, "stall(0, 7)", "stall(1, 7)").is(2, "walkway(0, 1)");
        Run.told(due, "m99,0;l20;l20;t0,4,8;t1,4,9;").is(6, "stall(0, 7)").is(7, "stall(1, 7)").is(2, "walkway(0, 1)", "walkway(1, 0)");
        Run.told(due, "m99,0;l20;l20;t0,4,8;t1,4,10;").is(6, "stall(0, 7)").is(8, "stall(1, 7)").is(1, "walkway(0, 1)", "walkway(1, 0)");
        Run.told(due, "m99,0;l20;l20;v0,4,1;t1,4,0;").is(-1, "stall(0, 7)").is(0, "stall(1, 7)").is(2, "walkway(0, 1)");
        Run.told(due, "m99,0;l20;l20;v0,4,1;t1,4,1;").is(-1, "stall(0, 7)").is(1, "stall(1, 7)").is(1, "walkway(0, 1)");
    }

    static void aWalkwayOfNoSuchStalls(Due due) {
        due.says(19, "BAD: alike, too.");
        Run x = Run.told(due, "m99,0;l20;l20;t0,4,8;t1,4,12;").is(BAD, "walkway(1, 1)", "walkway(0, 0)", "walkway(1, 2)", "walkway(2, 1)", "walkway(-1, 1)");
        x.is(BAD, "walkway(1, -1)", "walkway(2, 2)", "walkway(" + MAX + ", 0)", "walkway(0, " + MIN + ")");
        new Run(due).is(BAD, "walkway(0, 1)");
    }

    // ---- 20

    static void howManyWalkways(Due due) {
        due.says(20, "How many WALKWAYS there are (what = 0), MEET (1).");
        Run.told(due, "m99,0;l20;l20;l20;t0,4,0;t1,4,0;t2,4,0;n0,8,0;n1,8,0;n2,8,0;").is(4, "walkways(0)", "walkways(1)");
        Run.told(due, "m99,0;l20;l20;t0,4,8;t1,4,9;").is(1, "walkways(0)", "walkways(1)").does("girl(1, 1)").is(1, "walkways(0)").is(0, "walkways(1)");
        Run.told(due, "m99,0;l20;l20;t0,4,8;t1,5,9;").is(0, "walkways(0)", "walkways(1)");
        Run.told(due, "m99,0;l20;").is(0, "walkways(0)", "walkways(1)");
    }

    static void walkwaysOfNoSuchWhat(Due due) {
        due.says(20, "BAD;");
        Run.told(due, "m99,0;l20;").is(BAD, "walkways(2)", "walkways(-1)", "walkways(" + MAX + ")", "walkways(" + MIN + ")");
    }

    static void walkwaysWithoutAMarket(Due due) {
        due.says(20, "STATE: no MARKET (ahead of BAD).");
        new Run(due).is(STATE, "walkways(0)", "walkways(1)", "walkways(2)", "walkways(-1)");
    }

    // ---- 21

    static void evenTellsHowManyAndHowManyAtTheFirst(Due due) {
        due.says(21, "EVEN: how many (what = 0), at a (1);");
        Run.told(due, "m99,0;l20;l20;t0,4,8;t1,4,12;").is(4, "even(0, 1, 0)", "even(0, 1, 1)", "even(1, 0, 0)").is(0, "even(1, 0, 1)");
    }

    static void evenByTheFewestGirls(Due due) {
        due.says(21, "EVEN for a WALKWAY: the fewest girls HIRED more at its two STALLS");
        Run.told(due, "m99,0;l20;l20;t0,4,8;t1,4,9;").is(0, "even(0, 1, 0)", "even(0, 1, 1)");
        // 20 a girl on rope 0, 5 on rope 1: 0 and 15 ahead, with one at each 20 - 5 and 20 - 5
        Run.told(due, "m99,0;l1;l4;t0,4,0;t1,4,3;").is(2, "even(0, 1, 0)").is(1, "even(0, 1, 1)", "even(1, 0, 1)");
    }

    static void evenBy9GirlsAtMostAtEach(Due due) {
        due.says(21, "(0 to 9 each)");
        Run.told(due, "m99,0;l20;l20;t0,4,0;t1,4,10;").is(9, "even(0, 1, 0)", "even(0, 1, 1)", "even(1, 0, 0)").is(0, "even(1, 0, 1)");
        Run.told(due, "m99,0;l20;l20;t0,4,0;t1,4,11;").is(NONE, "even(0, 1, 0)", "even(0, 1, 1)", "even(1, 0, 0)", "even(1, 0, 1)");
        Run.told(due, "m99,20;l18;l1;t0,8,14;v1,8,7;b0,4,13;").is(18, "even(0, 1, 0)", "even(1, 0, 0)").is(9, "even(0, 1, 1)", "even(1, 0, 1)");
    }

    /** 4 girls stand there: 9 more are foretold, though no more than 9 in all can be hired by girl(). */
    static void evenBy9MoreThanStandThere(Due due) {
        due.says(21, "HIRED more at its two STALLS (0 to 9 each), so that it MEETS");
        Run x = Run.told(due, "m99,0;l20;l20;n0,4,0;t1,4,14;").times(4, "girl(0, 1)").is(9, "even(0, 1, 0)", "even(0, 1, 1)").is(4, "stall(0, 4)");
        Run.told(due, "m99,0;l20;l20;n0,4,0;t1,4,16;").times(4, "girl(0, 1)").is(NONE, "even(0, 1, 0)");
    }

    /** More girls at one make it deeper and lift the other, so that of the fewest there is one way only. */
    static void evenAtTheFirstToldAsItIsTold(Due due) {
        due.says(21, ": how many together; at the first STALL told, of several ways the fewest there; NONE.");
        Run x = Run.told(due, "m99,0;l20;l20;l20;t1,4,3;t0,4,8;t2,4,5;");
        x.is(5, "even(0, 1, 0)", "even(0, 1, 1)", "even(1, 0, 0)").is(0, "even(1, 0, 1)").is(3, "even(0, 2, 0)", "even(2, 0, 0)", "even(0, 2, 1)").is(0, "even(2, 0, 1)");
    }

    static void evenOfNone(Due due) {
        due.says(21, "NONE.");
        Run.told(due, "m99,0;l20;l1;t0,4,0;b1,4,20;").is(NONE, "even(0, 1, 0)", "even(0, 1, 1)");
    }

    static void evenBadly(Due due) {
        due.says(21, "BAD: alike, too;");
        Run x = Run.told(due, "m99,0;l20;l20;t0,4,8;t1,4,12;").is(BAD, "even(0, 0, 0)", "even(1, 1, 1)", "even(0, 2, 0)", "even(2, 0, 0)", "even(-1, 1, 0)");
        x.is(BAD, "even(0, -1, 0)", "even(0, 1, 2)", "even(0, 1, -1)", "even(" + MAX + ", " + MIN + ", 0)");
        new Run(due).is(BAD, "even(0, 1, 0)");
    }

    static void evenWithoutAWalkway(Due due) {
        due.says(21, "STATE: no WALKWAY.");
        Run x = Run.told(due, "m99,0;l20;l20;l20;t0,4,8;t1,4,12;t0,5,1;t2,4,0;");
        x.is(STATE, "even(0, 2, 0)", "even(1, 2, 1)", "even(0, 3, 0)").is(BAD, "even(0, 2, 2)");
    }

    // ---- 22

    static void theBestSlide(Due due) {
        due.says(22, "SLIDE: which (what = 0), how many MEET (1);");
        Run.told(due, "m99,0;l20;l20;t0,4,5;t1,5,5;").is(5, "bestSlide(0)").is(1, "bestSlide(1)").is(4, "stall(0, 1)");
    }

    static void aSlideIsToAnotherPlaceThatIsFree(Due due) {
        due.says(22, "SLIDE: the STALL and the PLACE (not its own, free)");
        // both meet now, and would if one stayed
        Run.told(due, "m99,0;l20;l20;t0,1,0;t1,1,0;n0,2,0;n1,2,0;").is(2, "walkways(1)").is(1, "bestSlide(1)").is(3, "bestSlide(0)");
        // at place 2, where another is, stall 0 would meet, too
        Run.told(due, "m99,0;l20;l20;t0,1,0;n0,2,0;v1,2,0;").is(1, "bestSlide(1)").is(3, "bestSlide(0)");
    }

    static void aSlideByWhichMostMeet(Due due) {
        due.says(22, "by which most WALKWAYS MEET then,");
        Run.told(due, "m99,0;l20;l20;l20;t0,8,0;t2,8,0;t1,1,0;").is(0, "walkways(1)").is(2, "bestSlide(1)").is(2 * 9 + 8, "bestSlide(0)");
        Run.told(due, "m99,0;l20;l20;t0,4,20;t1,4,0;").is(0, "walkways(1)").is(0, "bestSlide(1)").is(1, "bestSlide(0)");
    }

    static void ofSeveralSlidesTheFirst(Due due) {
        due.says(22, "of several the first (by STALLS, PLACES):");
        Run.told(due, "m99,0;l20;l20;l20;v2,8,0;t0,4,5;t1,5,5;").is(9 + 5, "bestSlide(0)").is(1, "bestSlide(1)");
        Run.told(due, "m99,0;l20;l20;t0,8,0;t1,3,0;t1,6,0;").is(3, "bestSlide(0)").is(1, "bestSlide(1)");
        Run.told(due, "m99,0;l5;t0,1,5;").is(2, "bestSlide(0)").is(0, "bestSlide(1)");
        Run.told(due, "m99,0;l5;t0,8,5;t0,1,0;").is(2, "bestSlide(0)").is(0, "bestSlide(1)");
    }

    static void theNumberOfASlide(Due due) {
        due.says(22, "9 times the STALL, and the PLACE; how many MEET;");
        // only the last stall can come between two, at place 8
        Run.told(due, "m99,0;l1;l1;l1;t0,1,0;t0,2,0;t2,8,0;t2,7,0;t0,8,0;n1,4,0;").is(0, "walkways(0)").is(5 * 9 + 8, "bestSlide(0)").is(2, "bestSlide(1)");
        Run.told(due, "m99,0;l20;l20;t0,8,9;t1,1,0;").is(1, "bestSlide(0)").is(0, "bestSlide(1)");
    }

    static void noneCanSlide(Due due) {
        due.says(22, "NONE: none can slide.");
        Run.told(due, "m99,0;l5;").is(NONE, "bestSlide(0)", "bestSlide(1)");
    }

    static void bestSlideOfNone(Due due) {
        due.says(22, "NONE.");
        Run.told(due, "m99,0;l5;l5;l5;").is(NONE, "bestSlide(0)", "bestSlide(1)");
    }

    static void bestSlideOfNoSuchWhat(Due due) {
        due.says(22, "BAD;");
        Run.told(due, "m99,0;l5;t0,1,5;").is(BAD, "bestSlide(2)", "bestSlide(-1)", "bestSlide(" + MAX + ")", "bestSlide(" + MIN + ")");
    }

    static void bestSlideWithoutAMarket(Due due) {
        due.says(22, "STATE: no MARKET (ahead of BAD).");
        new Run(due).is(STATE, "bestSlide(0)", "bestSlide(1)", "bestSlide(2)", "bestSlide(-1)");
    }

    // ---- 23

    private static void orders(Run x, int many, int... first) {
        x.is(many, "unloaded(-1)");
        for (int k = 0; k < 6; k++) {
            x.is(k < first.length ? first[k] : NONE, "unloaded(" + k + ")");
        }
    }

    static void howManyOrdersAndTheFirst(Due due) {
        due.says(23, "UNLOADED: how many (k = -1), the k-th STALL of the first (0 on);");
        orders(Run.told(due, "m99,0;l20;t0,4,1;t0,5,1;t0,6,1;"), 6, 0, 1, 2);
        orders(Run.told(due, "m99,0;l20;l20;l20;t0,4,1;t0,5,1;t0,6,1;j1,1,1;n1,2,1;v2,3,3;"), 720, 0, 1, 2, 3, 4, 5);
    }

    static void ordersOfThoseNotTakenOff(Due due) {
        due.says(23, "UNLOADED: of all orders of STALLS whose WARES are not taken off,");
        Run x = Run.told(due, "m99,0;l20;t0,4,1;t0,5,1;t0,6,1;").does("unload(1, 1)");
        orders(x, 2, 0, 2);
        x.is(0, "stall(0, 5)", "stall(2, 5)").is(1, "stall(1, 5)");
        orders(x.does("unload(0, 1)"), 1, 2);
        orders(x.does("unload(2, 1)"), 1);
        orders(x.does("unload(0, 0)"), 1, 0);
        orders(Run.told(due, "m0,20;l20;"), 1);
    }

    static void ordersAheadOfTheFirst(Due due) {
        due.says(23, "in which these are taken off one after another so that ahead of the first,");
        orders(Run.told(due, "m5,0;l20;t0,4,5;"), 1, 0);
        orders(Run.told(due, "m5,0;l20;t0,4,6;"), 0);
        Run x = Run.told(due, "m5,0;l20;t0,4,0;").does("buyers(0, 6)", "unload(0, 1)");
        orders(x, 0);
        orders(x.does("buyers(0, 5)"), 1);
    }

    static void ordersBehindEach(Due due) {
        due.says(23, "and behind each, no STALL DROPS: how many;");
        orders(Run.told(due, "m5,0;l20;t0,4,10;v0,5,10;"), 1, 0, 1);
        orders(Run.told(due, "m0,1;l20;v0,4,5;"), 0);
        orders(Run.told(due, "m1,1;l20;v0,4,5;"), 1, 0);
        // the table must go ahead of both vultures that lift it
        orders(Run.told(due, "m5,0;l20;v0,5,10;v0,3,10;t0,4,20;"), 2, 2, 0, 1);
        // a heavy neighbour lifts the butcher, and must stay till its wares are off
        orders(Run.told(due, "m15,0;l20;l20;t0,4,12;b1,4,9;"), 1, 1, 0);
    }

    static void theFirstOrderByNumbers(Due due) {
        due.says(23, "the k-th STALL of the first one (by numbers, from the first on); NONE.");
        orders(Run.told(due, "m5,0;l20;v0,5,10;t0,4,10;"), 1, 1, 0);
        orders(Run.told(due, "m5,0;l20;v0,5,10;t0,4,10;n0,1,1;"), 3, 1, 0, 2);
        // stalls 0 and 1 could go first, one after another, but then none could follow
        orders(Run.told(due, "m52,0;l4;l1;v0,5,10;v1,4,17;t1,5,5;"), 1, 2, 1, 0);
    }

    static void unloadedOfNone(Due due) {
        due.says(23, "NONE: no such one.");
        Run x = Run.told(due, "m99,0;l20;t0,4,1;").is(1, "unloaded(-1)").is(0, "unloaded(0)").is(NONE, "unloaded(1)", "unloaded(5)");
        x = Run.told(due, "m0,0;l20;t0,4,1;").is(0, "unloaded(-1)").is(NONE, "unloaded(0)", "unloaded(5)");
        x = Run.told(due, "m0,0;l20;").is(1, "unloaded(-1)").is(NONE, "unloaded(0)", "unloaded(5)");
    }

    static void unloadedOfNoSuchK(Due due) {
        due.says(23, "BAD: k not -1 to 5;");
        Run.told(due, "m99,0;l20;t0,4,1;").is(BAD, "unloaded(-2)", "unloaded(6)", "unloaded(" + MAX + ")", "unloaded(" + MIN + ")").is(NONE, "unloaded(5)");
    }

    static void unloadedWithoutAMarket(Due due) {
        due.says(23, "STATE: no MARKET (ahead of BAD).");
        new Run(due).is(STATE, "unloaded(-1)", "unloaded(0)", "unloaded(-2)", "unloaded(6)");
    }

    // ---- 24

    static void whoCutByTheDepthOfEach(Due due) {
        due.says(24, "WHO CUT: a row tells the DEPTH of each STALL:");
        for (int rope = 0; rope < 2; rope++) {
            Run x = Run.told(due, "m99,0;l20;l10;l1;t0,4,19;t1,1,9;n2,8,0;").does("cut(" + rope + ")");
            int[] depths = {x.answer("stall(0, 7)"), x.answer("stall(1, 7)"), x.answer("stall(2, 7)")};
            x.does("undo()").row(0, 1, depths).is(1 << rope, "whoCut(0, 0)");
            for (int i = 0; i < 3; i++) {
                x.does("set(0, " + i + ", " + (depths[i] + 1) + ")").is(0, "whoCut(0, 0)");
                x.does("set(0, " + i + ", " + (depths[i] - 1) + ")").is(0, "whoCut(0, 0)");
                x.does("set(0, " + i + ", " + depths[i] + ")").is(1 << rope, "whoCut(0, 0)");
            }
        }
    }

    static void whoCutTellsRopesAsBits(Due due) {
        due.says(24, "ROPES (bits) of which one strand cut now would make it so;");
        Run.told(due, "m99,0;l20;l10;l2;t0,4,0;").row(0, 0, 5, 0, 7).is(7, "whoCut(0, 1)").is(0, "whoCut(0, 0)", "whoCut(0, 2)");
        Run.told(due, "m99,0;l20;t0,4,19;").row(0, 2, 19, 20).is(0, "whoCut(0, 0)").is(1, "whoCut(0, 1)").is(20, "rope(0, 1, 2)");
        // a rope of TAUT 1 has no strand that can be cut
        Run.told(due, "m99,0;l1;l10;l1;t0,4,0;").row(0, 0, 0).is(2, "whoCut(0, 0)");
        // -112 is all that a byte keeps of 400
        Run.told(due, "m99,0;l2;t0,4,20;").row(0, 0, 400).row(1, 1, 400).is(0, "whoCut(0, 0)").is(1, "whoCut(1, 0)");
    }

    static void whoCutByAsManyItemsAsStalls(Due due) {
        due.says(24, "WHO CUT, as many ITEMS as STALLS, of a ROW from i on.");
        Run x = Run.told(due, "m99,0;l20;t0,4,0;t0,5,0;").row(0, 0, 0, 0, 9).does("row(7, 2, 40)").is(1, "whoCut(0, 0)").is(0, "whoCut(0, 1)");
        x.is(1, "whoCut(7, 38)").is(PLACE, "whoCut(7, 39)").is(0, "fault()");
        x = Run.told(due, "m99,0;l2;l1;").does("row(0, 0, 2)", "row(1, 0, 0)").is(1, "whoCut(0, 0)", "whoCut(0, 2)", "whoCut(1, 0)").is(PLACE, "whoCut(0, 3)", "whoCut(1, 1)");
    }

    static void whoCutOfNoSuchRow(Due due) {
        due.says(24, "BAD: ROW;");
        Run.told(due, "m99,0;l20;").does("row(0, 0, 1)", "row(7, 0, 1)").is(BAD, "whoCut(8, 0)", "whoCut(-1, 0)", "whoCut(" + MAX + ", 0)", "whoCut(" + MIN + ", 0)");
    }

    static void whoCutWithoutAMarket(Due due) {
        due.says(24, "STATE: no MARKET (ahead of BAD);");
        new Run(due).does("row(1, 0, 1)").is(STATE, "whoCut(8, 0)", "whoCut(-1, 0)", "whoCut(0, 0)", "whoCut(1, 0)", "whoCut(1, 9)").is(0, "status()");
    }

    static void whoCutOfAMissingRow(Due due) {
        due.says(24, "NULL;");
        Run.told(due, "m99,0;l20;t0,4,0;").is(NULL, "whoCut(1, 0)", "whoCut(1, -1)").is(1, "status()");
        Run.told(due, "m99,0;l20;").is(NULL, "whoCut(1, 0)");
    }

    static void whoCutBeyondARow(Due due) {
        due.says(24, "PLACE.");
        Run x = Run.told(due, "m99,0;l20;t0,4,19;t0,5,1;").does("row(0, 0, 3)", "row(1, 0, 1)");
        x.is(PLACE, "whoCut(0, -1)", "whoCut(0, 2)", "whoCut(0, 3)", "whoCut(1, 0)", "whoCut(0, " + MAX + ")", "whoCut(0, " + MIN + ")").is(2, "status()");
        x.is(0, "whoCut(0, 1)").is(0, "status()");
    }

    // ---- 25

    static void boxByADepth(Due due) {
        due.says(25, "BOX by a DEPTH: the least (what = 0), the most (1);");
        Run x = Run.told(due, "m99,0;l20;t0,1,10;");
        int[][] goods = {{0, 0, 2}, {1, 3, 4}, {2, 5, 7}, {3, 8, 9}, {4, 10, 12}, {5, 13, 14}, {6, 15, 17}, {7, 18, 19}, {8, 20, 20}};
        for (int[] g : goods) {
            x.is(g[1], "box(0, " + g[0] + ", 0)").is(g[2], "box(0, " + g[0] + ", 1)");
        }
        x.is(10, "stall(0, 2)");
    }

    static void boxAsAllElseIs(Due due) {
        due.says(25, "BOX: GOODS (0 to 20) of a STALL by which, all else as it is, its DEPTH is told: the least, the most; NONE.");
        Run.told(due, "m99,0;l20;t0,4,7;").is(0, "box(0, 0, 0)").is(20, "box(0, 20, 1)").is(NONE, "box(0, 21, 0)", "box(0, 21, 1)", "box(0, -1, 0)", "box(0, -1, 1)")
            .does("buyers(0, 3)", "rain()").is(2, "box(0, 6, 0)", "box(0, 6, 1)").is(NONE, "box(0, 3, 0)");
        Run.told(due, "m99,0;l20;t0,1,10;").does("unload(0, 1)").is(0, "box(0, 0, 0)").is(20, "box(0, 0, 1)").is(NONE, "box(0, 1, 0)", "box(0, 1, 1)");
        Run.told(due, "m99,0;l20;j0,4,1;b0,5,0;").is(6, "box(0, 3, 0)").is(7, "box(0, 3, 1)").is(3, "box(1, 6, 0)", "box(1, 6, 1)");
        Run.told(due, "m99,0;l20;v0,4,1;").is(6, "box(0, -6, 0)", "box(0, -6, 1)");
    }

    static void boxOfNone(Due due) {
        due.says(25, "NONE.");
        Run.told(due, "m99,0;l1;t0,4,1;").is(NONE, "box(0, 10, 0)", "box(0, 10, 1)", "box(0, 401, 0)", "box(0, -20, 1)").is(20, "box(0, 400, 0)");
    }

    static void boxOfNoSuchDepth(Due due) {
        due.says(25, "BAD: DEPTH -9999 to 9999.");
        Run x = Run.told(due, "m99,0;l20;t0,1,10;").is(NONE, "box(0, 9999, 0)", "box(0, -9999, 0)", "box(0, 9999, 1)", "box(0, -9999, 1)");
        x.is(BAD, "box(0, 10000, 0)", "box(0, -10000, 0)", "box(0, 10000, 1)", "box(0, " + MAX + ", 0)", "box(0, " + MIN + ", 0)");
        x.is(BAD, "box(1, 0, 0)", "box(-1, 0, 0)", "box(" + MAX + ", 0, 0)", "box(0, 0, 2)", "box(0, 0, -1)", "box(0, 0, " + MIN + ")");
        new Run(due).is(BAD, "box(0, 0, 0)");
    }

    // ---- 26

    static void readsHowManyAndTheFirst(Due due) {
        due.says(26, "READ, as many ITEMS as STALLS, of a ROW from i on: how many (what = 0), the first (1; NONE).");
        // ways: 1 and 9, 2 and 8, 3 and 7, 4 and 6
        Run x = Run.told(due, "m99,0;l20;t0,4,0;t0,5,0;").row(0, 1, 1, 8, 9);
        x.is(4, "reads(0, 1, 0, 1, 0)", "reads(1, 0, 0, 1, 0)").is(21 + 9, "reads(0, 1, 0, 1, 1)").is(21 * 6 + 4, "reads(1, 0, 0, 1, 1)");
        x.is(0, "reads(0, 1, 0, 0, 0)").is(NONE, "reads(0, 1, 0, 0, 1)").is(0, "status()").is(0, "stall(0, 2)", "stall(1, 2)");
    }

    static void readsTheDepthOfEach(Due due) {
        due.says(26, "READ: a row tells the DEPTH of each STALL;");
        Run x = Run.told(due, "m99,0;l20;l20;t0,4,20;t1,4,20;b1,1,3;");
        int[] depths = {x.answer("stall(0, 7)"), x.answer("stall(1, 7)"), x.answer("stall(2, 7)")};
        x.row(0, 2, depths).is(1, "reads(0, 1, 0, 0, 0)").is(440, "reads(0, 1, 0, 0, 1)");
        for (int i = 0; i < 3; i++) {
            x.does("set(0, " + i + ", " + (depths[i] + 1) + ")").is(0, "reads(0, 1, 0, 0, 0)").does("set(0, " + i + ", " + depths[i] + ")");
        }
    }

    static void readsGoodsFromNoneTo20(Due due) {
        due.says(26, "two STALLS have unknown GOODS (0 to 20 each): in how many ways it can be so;");
        Run x = Run.told(due, "m99,0;l20;l20;l20;t0,4,7;t2,4,7;").row(0, 0, 0, 0).row(1, 0, 20, 20).row(2, 0, 20, 21);
        x.is(1, "reads(0, 1, 0, 0, 0)", "reads(0, 1, 1, 0, 0)").is(0, "reads(0, 1, 0, 0, 1)").is(440, "reads(0, 1, 1, 0, 1)").is(0, "reads(0, 1, 2, 0, 0)").is(NONE, "reads(0, 1, 2, 0, 1)");
        x.does("unload(0, 1)", "unload(1, 1)").is(441, "reads(0, 1, 0, 0, 0)").is(0, "reads(0, 1, 0, 0, 1)");
        x.does("unload(0, 0)").is(21, "reads(1, 0, 0, 0, 0)");
    }

    static void readsTheFirstByTheFirstTold(Due due) {
        due.says(26, "the first (by GOODS of the first told, then of the other): 21 times those and these; NONE.");
        Run x = Run.told(due, "m99,0;l20;j0,4,0;t0,5,0;").row(0, 0, 3, 2).row(1, 0, 1, 0);
        x.is(2, "reads(0, 1, 0, 0, 0)").is(21 * 6, "reads(0, 1, 0, 0, 1)").is(6, "reads(1, 0, 0, 0, 1)").is(2, "reads(0, 1, 1, 0, 0)").is(21 * 2, "reads(0, 1, 1, 0, 1)");
    }

    static void readsOfNoSuchStalls(Due due) {
        due.says(26, "BAD: STALLS, alike, too,");
        Run x = Run.told(due, "m99,0;l20;t0,4,0;t0,5,0;").does("row(0, 0, 2)").is(BAD, "reads(1, 1, 0, 0, 0)", "reads(0, 0, 0, 0, 1)", "reads(0, 2, 0, 0, 0)");
        x.is(BAD, "reads(2, 0, 0, 0, 0)", "reads(-1, 1, 0, 0, 0)", "reads(1, -1, 0, 0, 0)", "reads(" + MAX + ", " + MIN + ", 0, 0, 0)");
        new Run(due).does("row(0, 0, 2)").is(BAD, "reads(0, 1, 0, 0, 0)");
    }

    static void readsOfNoSuchRowOrWhat(Due due) {
        due.says(26, "ROW, what;");
        Run x = Run.told(due, "m99,0;l20;t0,4,0;t0,5,0;").does("row(0, 0, 2)", "row(7, 0, 2)").is(BAD, "reads(0, 1, 8, 0, 0)", "reads(0, 1, -1, 0, 0)");
        x.is(BAD, "reads(0, 1, 0, 0, 2)", "reads(0, 1, 0, 0, -1)", "reads(0, 1, 1, 0, 2)", "reads(0, 1, 0, 9, 2)").is(0, "status()").does("reads(0, 1, 7, 0, 0)");
    }

    static void readsOfAMissingRow(Due due) {
        due.says(26, "NULL;");
        Run.told(due, "m99,0;l20;t0,4,0;t0,5,0;").is(NULL, "reads(0, 1, 1, 0, 0)", "reads(0, 1, 1, -1, 1)").is(1, "status()");
    }

    static void readsBeyondARow(Due due) {
        due.says(26, "PLACE.");
        Run x = Run.told(due, "m99,0;l20;t0,4,0;t0,5,0;").does("row(0, 0, 3)", "row(1, 0, 1)").is(PLACE, "reads(0, 1, 0, 2, 0)", "reads(0, 1, 0, 3, 0)");
        x.is(PLACE, "reads(0, 1, 0, -1, 0)", "reads(0, 1, 1, 0, 0)", "reads(0, 1, 0, " + MAX + ", 1)", "reads(0, 1, 0, " + MIN + ", 0)").is(2, "status()");
        x.does("reads(0, 1, 0, 1, 0)").is(0, "status()");
    }

    // ---- 27

    static void theLeastTautThatHolds(Due due) {
        due.says(27, "HOLDS: the least TAUT (1 to 40) of a ROPE by which no STALL DROPS,");
        Run.told(due, "m10,0;l5;l9;t0,4,8;").is(15, "holds(0)").is(5, "rope(0, 1, 2)");
        Run.told(due, "m99,0;l20;t0,4,4;").is(1, "holds(0)");
        Run.told(due, "m19,0;l20;b0,4,19;").does("girl(0, 1)").is(40, "holds(0)");
        Run.told(due, "m19,0;l20;b0,4,20;").is(NONE, "holds(0)");
        Run.told(due, "m0,20;l20;").is(1, "holds(0)");
        Run.told(due, "m5,5;l20;t0,4,0;").is(1, "holds(0)");
    }

    static void holdsAsAllElseIs(Due due) {
        due.says(27, "all else as it is; NONE.");
        Run.told(due, "m10,0;l5;l9;t0,4,8;").is(NONE, "holds(1)").does("unload(0, 1)").is(1, "holds(0)", "holds(1)");
        // a rope that a vulture lifts lets its neighbour down: 300 by 16 is 18, a fourth of it 4
        Run.told(due, "m4,0;l20;l20;t0,4,0;t1,4,1;v1,5,20;").is(1, "holds(0)").is(16, "holds(1)");
    }

    static void holdsOrNone(Due due) {
        due.says(27, "HOLDS; NONE.");
        Run.told(due, "m0,1;l5;t0,4,8;").is(NONE, "holds(0)");
        Run.told(due, "m0,0;l5;t0,4,2;").is(NONE, "holds(0)");
        Run.told(due, "m0,0;l5;t0,8,4;").is(33, "holds(0)");
    }

    static void holdsOfNoSuchRope(Due due) {
        due.says(27, "BAD.");
        Run.told(due, "m10,0;l5;l9;t0,4,8;").is(BAD, "holds(2)", "holds(-1)", "holds(3)", "holds(" + MAX + ")", "holds(" + MIN + ")");
        new Run(due).is(BAD, "holds(0)");
    }

    // ---- 28

    static void howOftenItMustRain(Due due) {
        due.says(28, "FALLS: how often (what = 0), who (1); NONE.");
        Run.told(due, "m9,0;l20;v0,8,1;t0,4,4;t0,5,0;").is(7, "falls(0)").is(1, "falls(1)").is(0, "count(4)");
        Run.told(due, "m0,20;l1;").is(NONE, "falls(0)", "falls(1)");
    }

    static void rainFromNoneTo99Times(Due due) {
        due.says(28, "FALLS: how many times it must rain (0 to 99) till one DROPS,");
        Run.told(due, "m1,0;l20;t0,4,0;t0,5,4;").is(0, "falls(0)").is(0, "falls(1)");
        Run.told(due, "m98,0;l5;t0,1,0;").is(99, "falls(0)").is(0, "falls(1)");
        Run.told(due, "m99,0;l5;t0,1,0;").is(NONE, "falls(0)", "falls(1)");
        // it is foretold beyond a SLACK of 99, too
        Run.told(due, "m99,20;l20;v0,4,20;").times(79, "rain()").is(99, "count(4)").is(21, "falls(0)").is(0, "falls(1)").is(99, "count(4)");
    }

    static void theFirstThatDropsThen(Due due) {
        due.says(28, "the first that does then; NONE.");
        Run.told(due, "m9,0;l20;t0,1,0;t0,4,0;").is(10, "falls(0)").is(0, "falls(1)");
        Run.told(due, "m9,0;l20;l20;l20;t1,4,0;t2,5,0;t0,4,0;").is(13, "falls(0)").is(1, "falls(1)");
        Run.told(due, "m9,0;l20;v0,8,2;v0,7,2;t0,1,20;").is(3, "falls(0)").is(2, "falls(1)");
    }

    static void fallsOfNoSuchWhat(Due due) {
        due.says(28, "BAD;");
        Run.told(due, "m9,0;l20;t0,1,0;").is(BAD, "falls(2)", "falls(-1)", "falls(" + MAX + ")", "falls(" + MIN + ")");
    }

    static void fallsWithoutAMarket(Due due) {
        due.says(28, "STATE: no MARKET (ahead of BAD).");
        new Run(due).is(STATE, "falls(0)", "falls(1)", "falls(2)", "falls(-1)");
    }

    // ---- 29

    static void theDearestPlace(Due due) {
        due.says(29, "DEAREST.");
        Run.told(due, "m99,0;l20;t0,4,20;").is(1, "dearest(0)").is(4, "stall(0, 1)");
        Run.told(due, "m99,20;l20;v0,4,20;").is(3, "dearest(0)");
    }

    static void theDearestPlaceIsFreeOrItsOwn(Due due) {
        due.says(29, "DEAREST: the PLACE of its ROPE (free, its own)");
        Run.told(due, "m99,20;l20;v0,4,20;t0,1,0;").is(3, "dearest(0)").does("slide(1, 3)").is(4, "dearest(0)");
        Run.told(due, "m99,0;l20;t0,4,20;n0,1,0;").is(8, "dearest(0)").is(1, "dearest(1)");
        Run.told(due, "m99,0;l20;l20;t0,4,20;n1,1,0;").is(1, "dearest(0)");
    }

    static void ofSeveralDearestTheLeast(Due due) {
        due.says(29, "at which a STALL's PRICE is greatest, of several the least.");
        Run.told(due, "m99,0;l20;n0,8,1;v0,1,0;").is(2, "dearest(0)").is(1, "dearest(1)");
        Run.told(due, "m99,0;l1;t0,8,0;").is(1, "dearest(0)");
        Run.told(due, "m99,0;l20;t0,8,20;").is(1, "dearest(0)");
        // 20 less 8 by 5 at the rims, but a butcher near the one makes the other dearer
        Run.told(due, "m99,0;l20;t0,4,20;b0,2,20;").is(8, "dearest(0)");
    }

    static void dearestOfNoSuchStall(Due due) {
        due.says(29, "BAD.");
        Run.told(due, "m99,0;l1;t0,8,0;").is(BAD, "dearest(1)", "dearest(-1)", "dearest(6)", "dearest(" + MAX + ")", "dearest(" + MIN + ")");
        new Run(due).is(BAD, "dearest(0)");
    }

    // ---- 30

    static void rentedPlaces(Due due) {
        due.says(30, "RENTED.");
        Run.told(due, "m99,0;l20;l20;t0,4,10;t1,4,10;n0,5,2;").is(255 - 8, "rented(2, 0, 1)", "rented(2, 1, 0)").is(5, "stall(2, 1)");
    }

    static void rentedSoThatAToldWalkwayMeets(Due due) {
        due.says(30, "RENTED: a notary is RENTED for hours so that a told WALKWAY MEETS, if he slides on his ROPE:");
        for (String he : new String[] {"n0,5,5;", "n1,5,9;", "v0,5,9;", "v1,5,20;", "n2,5,20;"}) {
            String text = "m99,0;l20;l20;l20;t0,4,10;t1,4,11;" + he;
            int bits = Run.told(due, text).answer("rented(2, 0, 1)");
            for (int place = 1; place <= 8; place++) {
                Run x = Run.told(due, text);
                boolean can = place == 5 || x.answer("slide(2, " + place + ")") == 5;
                due.is(he + " at " + place, bits >> place - 1 & 1, can && x.answer("walkway(0, 1)") == 2 ? 1 : 0);
            }
        }
    }

    static void rentedPlacesAreFreeOrHisOwn(Due due) {
        due.says(30, "PLACES (bits, bit 0: PLACE 1; free ones, his own) at which it does so.");
        Run x = Run.told(due, "m99,0;l20;l20;t0,4,10;t1,4,10;n0,5,5;").is(1 + 128, "rented(2, 0, 1)").does("slide(2, 8)").is(1 + 128, "rented(2, 0, 1)");
        x.does("slide(2, 1)").is(1 + 128, "rented(2, 0, 1)");
        Run.told(due, "m99,0;l20;l20;t0,4,10;t1,4,10;n0,5,5;t0,8,0;").is(1, "rented(2, 0, 1)");
        Run.told(due, "m99,0;l20;l20;t0,4,10;t1,4,10;n0,5,5;t0,1,0;").is(128, "rented(2, 0, 1)");
        Run.told(due, "m99,0;l20;l20;l20;t0,4,0;t1,4,0;n2,4,0;t2,1,0;").is(254, "rented(2, 0, 1)");
        Run.told(due, "m99,0;l20;l20;t0,4,0;b1,4,20;n0,5,0;").is(0, "rented(2, 0, 1)");
    }

    static void rentedBadly(Due due) {
        due.says(30, "BAD: a, b alike, too;");
        Run x = Run.told(due, "m99,0;l20;l20;t0,4,10;t1,4,10;n0,5,2;").is(BAD, "rented(2, 0, 0)", "rented(2, 2, 2)", "rented(3, 0, 1)", "rented(2, 3, 1)");
        x.is(BAD, "rented(2, 0, 3)", "rented(-1, 0, 1)", "rented(2, -1, 1)", "rented(2, 0, -1)", "rented(" + MAX + ", 0, 1)", "rented(0, 1, 1)");
        new Run(due).is(BAD, "rented(0, 1, 2)");
    }

    static void rentedOfNoNotary(Due due) {
        due.says(30, "STATE: no notary (a vulture is one, too),");
        Run x = Run.told(due, "m99,0;l20;l20;t0,4,0;t1,4,0;n0,5,0;v0,6,0;t0,7,0;").is(255 - 8 - 32 - 64, "rented(2, 0, 1)").is(255 - 8 - 16 - 64, "rented(3, 0, 1)");
        x.is(STATE, "rented(4, 0, 1)");
        Run.told(due, "m99,0;l20;l20;t0,4,0;t1,4,0;j0,5,0;b0,6,0;").is(STATE, "rented(2, 0, 1)", "rented(3, 0, 1)");
    }

    static void rentedWithoutAWalkway(Due due) {
        due.says(30, "no WALKWAY between a and b,");
        Run.told(due, "m99,0;l20;l20;l20;t0,4,0;t2,4,0;t1,3,0;n0,5,0;").is(STATE, "rented(3, 0, 1)", "rented(3, 0, 2)", "rented(3, 1, 2)");
    }

    static void rentedIsOneOfThem(Due due) {
        due.says(30, "he is one of them.");
        Run.told(due, "m99,0;l20;l20;n0,4,0;v1,4,0;").is(STATE, "rented(0, 0, 1)", "rented(0, 1, 0)", "rented(1, 0, 1)", "rented(1, 1, 0)");
    }

    // ---- 31

    static void windTellsHoursOrTaut(Due due) {
        due.says(31, "WIND (SEED 1 to 999999): hours (rope = -1), TAUT of a ROPE.");
        Run.told(due, "m9,0;l5;t0,4,2;").is(8, "wind(8, 1, -1)").is(5, "wind(8, 1, 0)");
        Run.told(due, "m9,0;l5;l6;t0,4,2;").is(5, "wind(0, 999999, 0)", "wind(1, 999999, 0)").is(0, "wind(0, 1, -1)").is(6, "wind(0, 1, 1)");
    }

    /** Of seed 20 the first draw, 336140, has a rest of 0 by 20, and none of the next three. */
    static void windOfSomeHours(Due due) {
        due.says(31, "WIND of n hours (0 to 40)");
        Run x = Run.told(due, "m9,0;l5;t0,4,2;").is(5, "wind(0, 20, 0)").is(0, "wind(0, 20, -1)").is(4, "wind(1, 20, 0)", "wind(2, 20, 0)");
        x.is(BAD, "wind(-1, 20, 0)", "wind(41, 20, 0)").is(5, "rope(0, 1, 2)");
        Run.told(due, "m9,0;l1;").is(40, "wind(40, 20, -1)");
    }

    static void windBySeed(Due due) {
        due.says(31, "by a SEED (X at first; X becomes the rest of (X times 16807) by 2147483647 for each draw):");
        for (int seed : new int[] {1, 2, 20, 4242, 999999}) {
            Run x = Run.told(due, "m99,0;l20;l3;");
            long drawn = seed;
            int[] taut = {20, 3};
            for (int hour = 1; hour <= 40; hour++) {
                for (int rope = 0; rope < 2; rope++) {
                    drawn = drawn * 16807 % 2147483647;
                    taut[rope] -= drawn % 20 == 0 && taut[rope] > 1 ? 1 : 0;
                }
                x.is(taut[0], "wind(" + hour + ", " + seed + ", 0)").is(taut[1], "wind(" + hour + ", " + seed + ", 1)").is(hour, "wind(" + hour + ", " + seed + ", -1)");
            }
        }
    }

    static void windDrawsForEachRope(Due due) {
        due.says(31, "in each hour, for each ROPE by a draw, if its rest by 20 is 0, a strand of it is cut");
        Run.told(due, "m9,0;l5;l5;").is(4, "wind(1, 20, 0)").is(5, "wind(1, 20, 1)");
        Run.told(due, "m9,0;l1;l5;").is(5, "wind(1, 20, 1)");
    }

    static void windNotBelow1(Due due) {
        due.says(31, "(not below TAUT 1);");
        Run.told(due, "m9,0;l1;").is(1, "wind(1, 20, 0)", "wind(40, 20, 0)");
        Run.told(due, "m9,0;l2;").is(1, "wind(1, 20, 0)", "wind(40, 20, 0)");
    }

    static void windCountsHoursBehindTheirDraws(Due due) {
        due.says(31, "in how many of these hours, behind its draws, no STALL DROPS; TAUT of a ROPE then.");
        Run.told(due, "m9,0;l5;t0,4,2;").is(0, "wind(1, 20, -1)", "wind(2, 20, -1)");
        Run.told(due, "m10,0;l5;t0,4,2;").is(1, "wind(1, 20, -1)").is(2, "wind(2, 20, -1)").is(4, "wind(2, 20, 0)");
        // of seed 23 only the third of six draws has a rest of 0, of seed 29 only the second
        Run.told(due, "m9,0;l5;t0,4,2;").is(2, "wind(2, 23, -1)", "wind(3, 23, -1)", "wind(6, 23, -1)").is(5, "wind(2, 23, 0)").is(4, "wind(3, 23, 0)", "wind(6, 23, 0)");
        Run.told(due, "m9,0;l20;l5;t1,4,2;").is(0, "wind(1, 29, -1)", "wind(3, 29, -1)").is(4, "wind(1, 29, 1)").is(20, "wind(3, 29, 0)");
    }

    static void windBadly(Due due) {
        due.says(31, "BAD;");
        Run x = Run.told(due, "m9,0;l5;l5;").is(BAD, "wind(-1, 1, 0)", "wind(41, 1, 0)", "wind(1, 0, 0)", "wind(1, 1000000, 0)", "wind(1, -1, 0)", "wind(1, 1, 2)");
        x.is(BAD, "wind(1, 1, -2)", "wind(" + MAX + ", 1, 0)", "wind(" + MIN + ", 1, 0)", "wind(1, " + MAX + ", 0)", "wind(1, " + MIN + ", 0)", "wind(1, 1, " + MAX + ")");
        x.is(BAD, "wind(0, 0, -1)", "wind(0, 1, 3)").is(5, "wind(0, 1, 1)");
    }

    static void windWithoutAMarket(Due due) {
        due.says(31, "STATE: no MARKET (ahead of BAD).");
        new Run(due).is(STATE, "wind(1, 1, -1)", "wind(1, 1, 0)", "wind(-1, 1, -1)", "wind(1, 0, -1)", "wind(1, 1, -2)");
    }

    // ---- 32, 33

    private static final String IMAGED = "m9,1;l5;l6;j0,4,2;v1,3,7;";

    /** The market of IMAGED with an act of each sort done. */
    private static Run withActs(Due due) {
        return Run.told(due, IMAGED).does("buyers(0, 3)", "girl(1, 1)", "unload(1, 1)", "slide(0, 6)", "rain()", "cut(1)");
    }

    private static void isWithActs(Run x) {
        x.is(2, "count(1)", "count(2)", "count(4)", "kind(0)", "stall(0, 2)").is(9, "count(3)").is(5, "rope(0, 1, 2)", "rope(1, 1, 2)", "kind(1)");
        x.is(0, "stall(0, 0)", "stall(0, 4)", "stall(0, 5)").is(6, "stall(0, 1)").is(3, "stall(0, 3)", "stall(1, 1)").is(7, "stall(1, 2)");
        x.is(1, "stall(1, 0)", "stall(1, 4)", "stall(1, 5)").is(0, "stall(1, 3)").is(0, "rope(0, 6, 3)").is(NONE, "rope(0, 4, 3)");
    }

    static void anImageIsKept(Due due) {
        due.says(32, "An IMAGE (0, 1) is kept of the MARKET: 1.");
        for (int k = 0; k < 2; k++) {
            Run x = withActs(due).is(1, "image(" + k + ")").is(6, "count(5)");
            x.does("buyers(0, 9)", "girl(1, 1)", "unload(1, 0)", "slide(0, 1)", "rain()", "cut(1)", "cut(0)").is(1, "restore(" + k + ")");
            isWithActs(x);
        }
        Run x = Run.told(due, IMAGED).does("image(0)", "rain()", "image(1)", "rain()", "image(0)", "rain()").is(1, "restore(1)").is(2, "count(4)");
        x.is(1, "restore(0)").is(3, "count(4)");
    }

    static void anImageLeavesActs(Due due) {
        due.says(32, "is kept of the MARKET");
        withActs(due).does("image(0)").is(6, "count(5)").is(5, "undo()").is(6, "rope(1, 1, 2)").is(4, "undo()").is(1, "count(4)").is(1, "restore(0)").is(2, "count(4)");
    }

    static void anImageOfNoSuchNumber(Due due) {
        due.says(32, "BAD;");
        Run.told(due, IMAGED).is(BAD, "image(2)", "image(-1)", "image(" + MAX + ")", "image(" + MIN + ")").is(STATE, "restore(0)", "restore(1)");
        new Run(due).is(BAD, "image(2)", "image(-1)");
    }

    static void anImageWithoutAMarket(Due due) {
        due.says(32, "STATE: no MARKET.");
        new Run(due).is(STATE, "image(0)", "image(1)", "restore(0)", "restore(1)");
    }

    static void aMarketIsAsAnImageKeptIt(Due due) {
        due.says(33, "The MARKET is as an IMAGE kept it");
        Run x = withActs(due).does("image(0)");
        x.reads("m50,0;l1;t0,1,1;");
        for (int times = 0; times < 3; times++) {
            x.does("rain()").is(1, "restore(0)");
            isWithActs(x);
            x.does("buyers(0, 20)", "cut(0)", "slide(0, 8)", "unload(0, 1)", "girl(0, 1)");
        }
    }

    static void noActCanBeUndoneBehindAnImage(Due due) {
        due.says(33, "(no ACT can be undone then): 1.");
        Run x = withActs(due).does("image(1)", "rain()").is(7, "count(5)").is(1, "restore(1)").is(0, "count(5)").is(STATE, "undo()").is(2, "count(4)");
        x.is(3, "rain()").is(1, "count(5)").is(0, "undo()").is(2, "count(4)").is(STATE, "undo()");
    }

    static void restoreOfNoSuchNumber(Due due) {
        due.says(33, "BAD;");
        Run.told(due, IMAGED).does("image(0)", "image(1)", "rain()").is(BAD, "restore(2)", "restore(-1)", "restore(" + MAX + ")", "restore(" + MIN + ")").is(2, "count(4)");
        new Run(due).is(BAD, "restore(2)");
    }

    static void noneWasKept(Due due) {
        due.says(33, "STATE: none was kept.");
        Run.told(due, IMAGED).does("rain()").is(STATE, "restore(0)", "restore(1)").does("image(1)").is(STATE, "restore(0)").is(1, "restore(1)").is(2, "count(4)");
        new Run(due).is(STATE, "restore(0)", "restore(1)");
    }
}
