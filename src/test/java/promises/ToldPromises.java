/** Promises 6 to 9: the tape, the market that is read from it, faults, and acts that are undone. */
final class ToldPromises {
    private static final int BAD = Due.BAD, STATE = Due.STATE, FULL = Due.FULL, NONE = Due.NONE;
    private static final int MAX = Integer.MAX_VALUE, MIN = Integer.MIN_VALUE;

    // all that a market can hold, in as many bytes as it can take: 79
    private static final String LONGEST = "m99,20;l20;l20;l20;t00,01,20;j00,02,20;b01,03,20;n01,04,20;v02,05,20;t02,06,20;";

    private ToldPromises() {
    }

    private static void faulty(Due due, String text, int place, int number) {
        Run x = new Run(due);
        due.is("market() of " + text, x.reads(text), -1000100 - place);
        due.is("fault() of " + text, x.answer("fault()"), number);
        x.is(STATE, "drops()");
    }

    private static void stands(Due due, String text, int stalls) {
        Run x = new Run(due);
        due.is("market() of " + text, x.reads(text), stalls);
        x.is(0, "fault()").is(stalls, "count(2)");
    }

    // ---- 6

    static void feedPutsAByteBehindTheTape(Due due) {
        due.says(6, "A byte (0 to 255) comes behind the tape: how many it has.");
        Run x = new Run(due).is(0, "count(6)").is(1, "feed(0)").is(2, "feed(255)").is(3, "feed(109)").is(3, "count(6)");
        x.is(-1000100, "market()").is(1, "feed(109)");
    }

    static void bytesComeOneByOne(Due due) {
        due.says(6, ", that come one by one;");
        Run x = new Run(due);
        String text = "m7,3;l5;";
        for (int i = 0; i < text.length(); i++) {
            x.is(i + 1, "feed(" + (int) text.charAt(i) + ")").is(i + 1, "count(6)").is(0, "count(1)");
        }
        x.is(0, "market()").is(1, "count(1)").is(7, "count(3)").is(3, "count(4)");
    }

    static void feedOfNoByte(Due due) {
        due.says(6, "BAD;");
        new Run(due).is(BAD, "feed(-1)", "feed(256)", "feed(" + MAX + ")", "feed(" + MIN + ")").is(0, "count(6)");
    }

    static void feedOfAFullTape(Due due) {
        due.says(6, "FULL.");
        Run x = new Run(due).times(99, "feed(109)").is(100, "feed(109)").is(FULL, "feed(109)", "feed(0)").is(100, "count(6)").is(BAD, "feed(256)");
        x.is(-1000101, "market()").is(1, "feed(109)");
    }

    static void theTapeHas100BytesAtMost(Due due) {
        due.says(6, "TEXTS: THE TAPE has at most 100 bytes");
        Run x = new Run(due);
        x.feed(LONGEST + "t02,07,20;".repeat(2)).is(100, "feed(59)").is(FULL, "feed(59)").is(-1000179, "market()").is(3, "fault()");
    }

    // ---- 7

    static void marketEmptiesTheTape(Due due) {
        due.says(7, "The tape, empty then, is read: how many STALLS there are.");
        Run x = new Run(due);
        x.feed("m1,2;l3;t0,1,0;v0,8,5;").is(2, "market()").is(2, "count(2)").is(0, "count(6)").is(1, "feed(120)").is(-1000100, "market()").is(0, "count(6)");
        x.feed("m1,2;l3;").is(0, "market()").is(0, "count(2)").is(0, "count(6)").is(-1000100, "market()").is(1, "fault()");
    }

    static void theLargestMarket(Due due) {
        due.says(7, "how many STALLS there are.");
        Run x = Run.told(due, LONGEST).is(6, "count(2)").is(3, "count(1)").is(99, "count(3)").is(20, "count(4)");
        int[][] stalls = {{0, 1}, {0, 2}, {1, 3}, {1, 4}, {2, 5}, {2, 6}};
        for (int i = 0; i < 6; i++) {
            x.is(stalls[i][0], "stall(" + i + ", 0)").is(stalls[i][1], "stall(" + i + ", 1)").is(20, "stall(" + i + ", 2)");
        }
        x.is(20, "rope(0, 1, 2)", "rope(1, 1, 2)", "rope(2, 1, 2)");
    }

    static void theSmallestMarket(Due due) {
        due.says(7, "how many STALLS there are.");
        Run.told(due, "m0,0;l1;").is(0, "count(2)", "count(3)", "count(4)", "drops()").is(1, "count(1)", "rope(0, 1, 2)").is(NONE, "rope(0, 1, 3)");
    }

    static void aFaultLeavesAll(Due due) {
        due.says(7, "-1000100 less the place of a FAULT: all stays.");
        Run x = Run.told(due, "m5,3;l4;t0,2,6;").does("buyers(0, 4)", "rain()", "image(1)", "ask(0, 1)", "row(0, 0, 2)");
        due.is("market()", x.reads("m9,9;l9;l9;t0,1,1;t"), -1000119);
        x.is(5, "count(3)").is(4, "count(4)").is(1, "count(1)", "count(2)").is(4, "stall(0, 3)").is(2, "stall(0, 1)").is(2, "count(5)").is(1, "count(0)");
        x.is(21, "trace(0)").is(1, "undo()").is(3, "count(4)").is(1, "restore(1)").is(4, "count(4)");
    }

    static void aMarketStandsInPlaceOfTheOneBefore(Due due) {
        due.says(7, "A MARKET that is read stands in place of the one before (none at first):");
        Run x = new Run(due).is(STATE, "drops()");
        due.is("market()", x.reads("m5,3;l4;l7;t0,2,6;n1,3,1;"), 2);
        due.is("market()", x.reads("m6,2;l9;v0,8,9;"), 1);
        x.is(6, "count(3)").is(2, "count(4)").is(1, "count(1)").is(BAD, "stall(1, 0)", "rope(1, 1, 0)").is(NONE, "rope(0, 2, 3)").is(0, "rope(0, 8, 3)");
        x.is(9, "rope(0, 1, 2)").is(5, "kind(0)").is(8, "stall(0, 1)");
    }

    static void aMarketThatIsReadIsNew(Due due) {
        due.says(7, "no buyers, no girls, no WARES taken off;");
        Run x = Run.told(due, "m5,3;l4;t0,2,6;").does("buyers(0, 4)", "girl(0, 1)", "unload(0, 1)", "cut(0)", "rain()", "slide(0, 7)");
        due.is("market()", x.reads("m5,3;l4;t0,2,6;"), 1);
        x.is(0, "stall(0, 3)", "stall(0, 4)", "stall(0, 5)").is(4, "rope(0, 1, 2)").is(3, "count(4)").is(2, "stall(0, 1)").is(6, "stall(0, 6)");
    }

    static void aMarketThatIsReadHasNoActs(Due due) {
        due.says(9, "no ACT can be undone.");
        Run x = Run.told(due, "m5,3;l4;t0,2,6;").does("buyers(0, 4)", "rain()").is(2, "count(5)");
        due.is("market()", x.reads("m5,3;l4;t0,2,6;"), 1);
        x.is(0, "count(5)").is(STATE, "undo()").is(1, "girl(0, 1)").is(0, "undo()").is(STATE, "undo()");
    }

    // ---- 7: the form of a market

    static void lettersStandByThemselves(Due due) {
        due.says(7, "TOKENS: letters a to z (each by itself)");
        faulty(due, "mm", 1, 1);
        faulty(due, "ma1,1;l1;", 1, 1);
        faulty(due, "m1,1;ll1;", 6, 1);
        faulty(due, "m1,1;l1;tt0,1,1;", 9, 1);
        faulty(due, "M1,1;l1;", 0, 1);
        faulty(due, "m1,1;L1;", 5, 1);
        faulty(due, "m1,1;l1;T0,1,1;", 8, 1);
    }

    static void numbersHaveTwoFiguresAtMost(Due due) {
        due.says(7, "NUMBERS (figures, 2 at most)");
        stands(due, "m0,0;l1;t0,1,0;", 1);
        stands(due, "m00,00;l01;t00,01,00;", 1);
        stands(due, "m09,09;l09;t00,08,09;", 1);
        faulty(due, "m000,0;l1;", 1, 1);
        faulty(due, "m0,000;l1;", 3, 1);
        faulty(due, "m0,0;l001;", 6, 1);
        faulty(due, "m0,0;l1;t000,1,0;", 9, 1);
        faulty(due, "m0,0;l1;t0,001,0;", 11, 1);
        faulty(due, "m0,0;l1;t0,1,000;", 13, 1);
        faulty(due, "m-1,0;l1;", 1, 1);
        faulty(due, "m1-1,0;l1;", 2, 1);
    }

    static void noOtherByteIsAToken(Due due) {
        due.says(7, "SIGNS , and ; nothing else.");
        for (int b = 0; b <= 255; b++) {
            char c = (char) b;
            boolean isFigure = c >= '0' && c <= '9';
            faulty(due, "" + c, c == 'm' ? 1 : 0, 1);
            faulty(due, "m1" + c, isFigure || c == ',' ? 3 : 2, 1);
            faulty(due, "m1,1;l1;" + c, "ltjbnv".indexOf(c) >= 0 ? 9 : 8, 1);
        }
        faulty(due, "m1, 1;l1;", 3, 1);
        faulty(due, "m1,1;l1;\n", 8, 1);
    }

    static void aMarketIsALawAndRopesAndStalls(Due due) {
        due.says(7, "market: law rope { rope } { stall }.");
        stands(due, "m1,1;l1;", 0);
        stands(due, "m1,1;l1;l1;l1;", 0);
        stands(due, "m1,1;l1;t0,1,1;", 1);
        faulty(due, "", 0, 1);
        faulty(due, "l1;", 0, 1);
        faulty(due, "t0,1,1;", 0, 1);
        faulty(due, "m1,1;", 5, 1);
        faulty(due, "m1,1;t0,1,1;", 5, 1);
        faulty(due, "m1,1;m1,1;l1;", 5, 1);
        faulty(due, "m1,1;l1;m1,1;", 8, 1);
        faulty(due, "m1,1;l1;t0,1,1;l1;", 15, 1);
        faulty(due, "m1,1;l1;t0,1,1;m1,1;", 15, 1);
        faulty(due, "m1,1;l1;;", 8, 1);
        faulty(due, "m1,1;l1;5", 8, 1);
    }

    static void theLaw(Due due) {
        due.says(7, "law: m LOW , SLACK ; (0 to 99; 0 to 20).");
        Run.told(due, "m0,0;l1;").is(0, "count(3)", "count(4)");
        Run.told(due, "m99,20;l1;").is(99, "count(3)").is(20, "count(4)");
        faulty(due, "m100,20;l1;", 1, 1);
        faulty(due, "m99,21;l1;", 4, 2);
        faulty(due, "m99,99;l1;", 4, 2);
        faulty(due, "m,1;l1;", 1, 1);
        faulty(due, "m1;1;l1;", 2, 1);
        faulty(due, "m1,;l1;", 3, 1);
        faulty(due, "m1,1,l1;", 4, 1);
    }

    static void aRope(Due due) {
        due.says(7, "rope: l TAUT ; (1 to 20;");
        Run.told(due, "m1,1;l1;l20;").is(1, "rope(0, 1, 2)").is(20, "rope(1, 1, 2)");
        faulty(due, "m1,1;l0;", 6, 2);
        faulty(due, "m1,1;l00;", 6, 2);
        faulty(due, "m1,1;l21;", 6, 2);
        faulty(due, "m1,1;l1;l99;", 9, 2);
        faulty(due, "m1,1;l;", 6, 1);
        faulty(due, "m1,1;l1,", 7, 1);
    }

    static void threeRopesAtMost(Due due) {
        due.says(7, "ROPES 0 .. 2, 3 at most).");
        Run.told(due, "m1,1;l4;l5;l6;").is(3, "count(1)").is(4, "rope(0, 1, 2)").is(6, "rope(2, 1, 2)").is(BAD, "rope(3, 1, 2)");
        faulty(due, "m1,1;l4;l5;l6;l7;", 14, 3);
    }

    static void aStallIsOfASort(Due due) {
        due.says(7, "stall: SORT ROPE , PLACE , GOODS ; (SORT: t a table, j a jeweller, b a butcher, n a notary, v a vulture;");
        String sorts = "tjbnv";
        for (int i = 0; i < 5; i++) {
            Run.told(due, "m1,1;l1;l1;" + sorts.charAt(i) + "1,7,13;").is(i + 1, "kind(0)").is(1, "stall(0, 0)").is(7, "stall(0, 1)").is(13, "stall(0, 2)");
        }
        for (char c = 'a'; c <= 'z'; c++) {
            if (c != 'l' && sorts.indexOf(c) < 0) {
                faulty(due, "m1,1;l1;" + c + "0,1,1;", 8, 1);
            }
        }
        faulty(due, "m1,1;l1;t,1,1;", 9, 1);
        faulty(due, "m1,1;l1;t0;1,1;", 10, 1);
        faulty(due, "m1,1;l1;t0,,1;", 11, 1);
        faulty(due, "m1,1;l1;t0,1;1;", 12, 1);
        faulty(due, "m1,1;l1;t0,1,;", 13, 1);
        faulty(due, "m1,1;l1;t0,1,1,", 14, 1);
        faulty(due, "m1,1;l1;t0,1,1t", 14, 1);
    }

    static void aStallHangsOnARopeTold(Due due) {
        due.says(7, "a ROPE told;");
        stands(due, "m1,1;l1;l1;t1,1,1;", 1);
        stands(due, "m1,1;l1;l1;l1;t2,1,1;", 1);
        faulty(due, "m1,1;l1;t1,1,1;", 9, 2);
        faulty(due, "m1,1;l1;l1;t2,1,1;", 12, 2);
        faulty(due, "m1,1;l1;l1;l1;t3,1,1;", 15, 2);
        faulty(due, "m1,1;l1;l1;l1;t99,1,1;", 15, 2);
    }

    static void aStallStandsAtAPlaceOfItsOwn(Due due) {
        due.says(7, "1 to 8: a PLACE of it without a stall;");
        stands(due, "m1,1;l1;t0,1,1;t0,8,1;", 2);
        stands(due, "m1,1;l1;l1;t0,5,1;n1,5,1;", 2);
        faulty(due, "m1,1;l1;t0,0,1;", 11, 2);
        faulty(due, "m1,1;l1;t0,9,1;", 11, 2);
        faulty(due, "m1,1;l1;t0,10,1;", 11, 2);
        faulty(due, "m1,1;l1;t0,5,1;n0,5,1;", 18, 2);
        faulty(due, "m1,1;l1;t0,5,1;n0,05,1;", 18, 2);
        faulty(due, "m1,1;l1;l1;t0,5,1;n1,5,1;v0,5,1;", 28, 2);
    }

    static void goodsAre20AtMost(Due due) {
        due.says(7, "0 to 20;");
        Run.told(due, "m1,1;l1;t0,1,0;t0,2,20;").is(0, "stall(0, 2)").is(20, "stall(1, 2)");
        faulty(due, "m1,1;l1;t0,1,21;", 13, 2);
        faulty(due, "m1,1;l1;t0,1,99;", 13, 2);
        faulty(due, "m1,1;l1;t0,1,100;", 13, 1);
    }

    static void sixStallsAtMost(Due due) {
        due.says(7, "STALLS 0 .. 5, 6 at most).");
        stands(due, "m1,1;l1;t0,1,1;t0,2,1;t0,3,1;t0,4,1;t0,5,1;t0,6,1;", 6);
        faulty(due, "m1,1;l1;t0,1,1;t0,2,1;t0,3,1;t0,4,1;t0,5,1;t0,6,1;t0,7,1;", 50, 3);
        Run.told(due, LONGEST).is(20, "stall(5, 2)").is(BAD, "stall(6, 2)");
    }

    // ---- 8: faults

    static void theFirstTokenWithAFault(Due due) {
        due.says(8, "FAULTS, the first TOKEN that has one (its first byte)");
        faulty(due, "m1,21;l0;t9,9,99;", 3, 2);
        faulty(due, "m1,1;l0;l1;?", 6, 2);
        faulty(due, "m1,1;l1;t7,9,21;", 9, 2);
        faulty(due, "m1,1;l1;t0,9,21;", 11, 2);
        faulty(due, "m1,1?l0;", 4, 1);
        faulty(due, "m1,1;l1;l1;l1;l0?", 14, 3);
        faulty(due, "m1,1;l21?", 6, 2);
        faulty(due, "m1,1;l1;t0,1,1;x0,1,21;", 15, 1);
    }

    static void theLeastFaultOfOneToken(Due due) {
        due.says(8, ", of one TOKEN the least:");
        faulty(due, "m1,1;l1;l1;l1;t0,1,1;l1;", 21, 1);
        faulty(due, "m1,1;l1;t0,1,1;t0,2,1;t0,3,1;t0,4,1;t0,5,1;t0,6,1;l1;", 50, 1);
        faulty(due, "m1,1;l1;t0,1,1;t0,2,1;t0,3,1;t0,4,1;t0,5,1;t0,6,1;x", 50, 1);
        faulty(due, "m1,1;l1;l1;l1;99", 14, 1);
        faulty(due, "m1,1;l210;", 6, 1);
        faulty(due, "m1,1;l1;t0,1,21", 13, 2);
    }

    static void fault1CannotStandThere(Due due) {
        due.says(8, "1 it cannot stand there, or is none");
        faulty(due, "5", 0, 1);
        faulty(due, ",", 0, 1);
        faulty(due, "ml", 1, 1);
        faulty(due, "m;", 1, 1);
        faulty(due, "m1,,", 3, 1);
        faulty(due, "m1,1;0", 5, 1);
        faulty(due, "m1,1;lt", 6, 1);
        faulty(due, "m1,1;l1;t0,?", 11, 1);
        faulty(due, "m1,1;l1;t0,1,1;" + (char) 233, 15, 1);
    }

    static void fault1OfThreeFigures(Due due) {
        due.says(8, "(a run of three figures, at its first;");
        faulty(due, "m123", 1, 1);
        faulty(due, "m1234,1;l1;", 1, 1);
        faulty(due, "m12345678901", 1, 1);
        faulty(due, "m1,1;l1;t0,1,123", 13, 1);
        faulty(due, "123", 0, 1);
        faulty(due, "m12", 3, 1);
    }

    static void fault1AtTheEnd(Due due) {
        due.says(8, "the end: how many bytes there are);");
        String whole = "m40,12;l11;l2;t0,4,10;v1,8,20;";
        for (int end = 0; end <= whole.length(); end++) {
            if (end == 11 || end == 14) {
                stands(due, whole.substring(0, end), 0);
            } else if (end == 22 || end == 30) {
                stands(due, whole.substring(0, end), (end - 14) / 8);
            } else {
                faulty(due, whole.substring(0, end), end, 1);
            }
        }
    }

    static void fault2OfANumber(Due due) {
        due.says(8, "2 a NUMBER that is not as told;");
        faulty(due, "m1,21", 3, 2);
        faulty(due, "m1,1;l0", 6, 2);
        faulty(due, "m1,1;l1;t1", 9, 2);
        faulty(due, "m1,1;l1;t0,9", 11, 2);
        faulty(due, "m1,1;l1;t0,1,21", 13, 2);
        faulty(due, "m1,1;l1;t0,5,1;n0,5", 18, 2);
    }

    static void fault3OfTooMany(Due due) {
        due.says(8, "3 a rope, a stall more than there is room for (its letter).");
        faulty(due, "m1,1;l1;l1;l1;l", 14, 3);
        faulty(due, "m1,1;l1;l1;l1;lx", 14, 3);
        for (char sort : "tjbnv".toCharArray()) {
            faulty(due, LONGEST + sort, 79, 3);
        }
        faulty(due, LONGEST + "t9,9,99;", 79, 3);
    }

    static void faultIsTheLatestOne(Due due) {
        due.says(8, "The number of the latest FAULT;");
        Run x = new Run(due);
        x.reads("m1,21;");
        x.is(2, "fault()");
        x.reads("m1,1;l1;");
        x.is(2, "fault()", "fault()");
        x.reads("m1,1;l1;l1;l1;l1;");
        x.is(3, "fault()");
        x.reads("?");
        x.is(1, "fault()");
    }

    static void faultBeforeOne(Due due) {
        due.says(8, "0 before one.");
        Run x = new Run(due).is(0, "fault()");
        x.reads("m1,1;l1;");
        x.is(0, "fault()").is(BAD, "feed(256)").is(0, "fault()");
    }

    // ---- 9

    static void undoTakesBackTheLatestAct(Due due) {
        due.says(9, "The latest ACT is undone: how many can be undone yet.");
        Run x = Run.told(due, "m5,3;l4;t0,2,6;").does("buyers(0, 4)", "rain()", "girl(0, 1)").is(3, "count(5)");
        x.is(2, "undo()").is(0, "stall(0, 4)").is(4, "count(4)").is(4, "stall(0, 3)");
        x.is(1, "undo()").is(3, "count(4)").is(4, "stall(0, 3)");
        x.is(0, "undo()").is(0, "stall(0, 3)").is(0, "count(5)");
    }

    static void undoOfNone(Due due) {
        due.says(9, "STATE: none.");
        new Run(due).is(STATE, "undo()");
        Run x = Run.told(due, "m5,3;l4;t0,2,6;").is(STATE, "undo()").does("rain()").is(0, "undo()").is(STATE, "undo()", "undo()").is(3, "count(4)");
        x.is(BAD, "buyers(0, 21)").is(STATE, "undo()");
    }

    static void actsAreUndoneTheLatestFirst(Due due) {
        due.says(9, "each can be undone, the latest first):");
        Run x = Run.told(due, "m5,3;l4;l7;t0,2,6;v1,2,6;");
        x.does("buyers(0, 4)", "buyers(0, 9)", "girl(1, 1)", "girl(1, 1)", "girl(1, -1)", "slide(0, 5)", "slide(1, 5)", "slide(1, 8)", "unload(0, 1)",
            "unload(1, 1)", "unload(1, 0)", "rain()", "cut(1)").is(13, "count(5)");
        String[] what = {"rope(1, 1, 2)", "count(4)", "stall(1, 5)", "stall(1, 5)", "stall(0, 5)", "stall(1, 1)", "stall(1, 1)", "stall(0, 1)",
            "stall(1, 4)", "stall(1, 4)", "stall(1, 4)", "stall(0, 3)", "stall(0, 3)"};
        int[] done = {6, 4, 0, 1, 1, 8, 5, 5, 1, 2, 1, 9, 4};
        int[] undone = {7, 3, 1, 0, 0, 5, 2, 2, 2, 1, 0, 4, 0};
        for (int i = 0; i < what.length; i++) {
            x.is(done[i], what[i]).is(12 - i, "undo()").is(undone[i], what[i]);
        }
    }

    static void of25ActsTheOldestIsForgotten(Due due) {
        due.says(9, "ACTS (24 at most are kept, of more the oldest is forgotten;");
        Run x = Run.told(due, "m5,0;l4;t0,2,6;");
        for (int i = 1; i <= 20; i++) {
            x.is(i - 1, "buyers(0, " + i + ")").is(i, "count(5)");
        }
        x.times(4, "girl(0, 1)").is(24, "count(5)").does("girl(0, 1)").is(24, "count(5)").times(4, "rain()").is(24, "count(5)");
        for (int i = 23; i >= 0; i--) {
            x.is(i, "undo()");
        }
        x.is(STATE, "undo()").is(5, "stall(0, 3)").is(0, "stall(0, 4)", "count(4)");
    }

    static void theOldestIsForgottenOfActsOfMany(Due due) {
        due.says(9, "of more the oldest is forgotten;");
        Run x = Run.told(due, "m5,0;l4;l20;l20;t0,2,6;t1,2,6;v2,2,6;").does("rain()", "cut(0)", "unload(2, 1)");
        String[] acts = {"buyers(0, 3)", "girl(1, 1)", "cut(2)", "slide(2, 7)", "unload(1, 1)", "cut(1)", "slide(0, 8)", "rain()",
            "buyers(1, 9)", "girl(0, 1)", "cut(1)", "slide(2, 1)", "unload(0, 1)", "cut(2)", "slide(1, 8)", "rain()",
            "buyers(2, 4)", "girl(1, -1)", "cut(2)", "slide(2, 5)", "unload(1, 0)", "cut(1)", "slide(0, 1)", "buyers(0, 0)"};
        String[] looks = {"stall(0, 3)", "stall(1, 4)", "rope(2, 1, 2)", "stall(2, 1)", "stall(1, 5)", "rope(1, 1, 2)", "stall(0, 1)", "count(4)"};
        int[] before = new int[acts.length];
        for (int i = 0; i < acts.length; i++) {
            before[i] = x.answer(lookFor(acts[i]));
            x.does(acts[i]);
        }
        x.is(24, "count(5)");
        for (int i = acts.length - 1; i >= 0; i--) {
            x.is(i, "undo()").is(before[i], lookFor(acts[i]));
        }
        int[] left = {0, 0, 20, 2, 0, 20, 2, 1};
        for (int i = 0; i < looks.length; i++) {
            x.is(left[i], looks[i]);
        }
        x.is(STATE, "undo()").is(3, "rope(0, 1, 2)").is(1, "stall(2, 5)");
    }

    /** The call that tells what an act changes. */
    private static String lookFor(String act) {
        String one = act.replaceAll("\\w+\\((-?\\d*).*", "$1");
        switch (act.charAt(0)) {
            case 'b': return "stall(" + one + ", 3)";
            case 'g': return "stall(" + one + ", 4)";
            case 's': return "stall(" + one + ", 1)";
            case 'u': return "stall(" + one + ", 5)";
            case 'c': return "rope(" + one + ", 1, 2)";
            default: return "count(4)";
        }
    }

    static void exactly24ActsCanAllBeUndone(Due due) {
        due.says(9, "24 at most are kept");
        Run x = Run.told(due, "m5,0;l4;t0,2,6;").times(24, "rain()").is(24, "count(5)", "count(4)");
        for (int i = 23; i >= 0; i--) {
            x.is(i, "undo()").is(i, "count(4)");
        }
        x.is(STATE, "undo()").times(25, "rain()").is(24, "count(5)");
        for (int i = 23; i >= 0; i--) {
            x.is(i, "undo()");
        }
        x.is(STATE, "undo()").is(1, "count(4)");
    }
}
