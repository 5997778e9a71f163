/** Promises 6 to 9: the tape, the market that is read from it, faults, and acts that are undone. */
public final class ToldTest {
    private static final Due DUE = new Due();

    public static void main(String[] args) {
        feeds();
        reads();
        misplaced();
        notAsTold();
        noRoom();
        firstFaultIsTold();
        faultLeavesAll();
        newMarketIsNew();
        undoesEach();
        forgetsTheOldest();
        DUE.end();
    }

    private static void faulty(String text, int place, int number) {
        HungStalls x = new HungStalls();
        DUE.is("market of " + text, Due.read(x, text), -1000100 - place);
        DUE.is("fault of " + text, x.fault(), number);
        DUE.is("tape behind " + text, x.count(6), 0);
        DUE.is("no market by " + text, x.drops(), Due.STATE);
    }

    private static void stands(String text, int stalls) {
        HungStalls x = new HungStalls();
        DUE.is("market of " + text, Due.read(x, text), stalls);
        DUE.is("fault of " + text, x.fault(), 0);
        DUE.is("stalls of " + text, x.count(2), stalls);
    }

    private static void feeds() {
        HungStalls x = new HungStalls();
        DUE.is("feed -1", x.feed(-1), Due.BAD);
        DUE.is("feed 256", x.feed(256), Due.BAD);
        DUE.is("feed 0", x.feed(0), 1);
        DUE.is("feed 255", x.feed(255), 2);
        for (int i = 3; i <= 100; i++) {
            DUE.is("feed", x.feed('m'), i);
        }
        DUE.is("feed 101", x.feed('m'), Due.FULL);
        DUE.is("BAD ahead of FULL", x.feed(256), Due.BAD);
        DUE.is("bytes", x.count(6), 100);
        DUE.is("market", x.market(), -1000100);
        DUE.is("bytes", x.count(6), 0);
        DUE.is("feed", x.feed('m'), 1);
    }

    private static void reads() {
        stands("m0,0;l1;", 0);
        stands("m99,20;l20;l20;l20;", 0);
        stands("m00,00;l01;t00,01,00;", 1);
        stands("m1,2;l3;t0,1,0;j0,2,20;b0,3,1;n0,4,2;v0,8,3;t0,7,4;", 6);
        HungStalls x = Due.told("m07,03;l5;l06;v1,8,20;t0,8,03;");
        int[] counts = {0, 2, 2, 7, 3, 0, 0};
        for (int what = 0; what < counts.length; what++) {
            DUE.is("count " + what, x.count(what), counts[what]);
        }
        int[][] stalls = {{1, 8, 20, 0, 0, 0}, {0, 8, 3, 0, 0, 0}};
        for (int i = 0; i < 2; i++) {
            for (int what = 0; what < 6; what++) {
                DUE.is("stall " + i + " " + what, x.stall(i, what), stalls[i][what]);
            }
        }
        DUE.is("kind", x.kind(0), 5);
        DUE.is("taut", x.rope(0, 1, 2), 5);
        DUE.is("taut", x.rope(1, 1, 2), 6);
    }

    private static void misplaced() {
        faulty("", 0, 1);
        faulty("x", 0, 1);
        faulty("M1,1;", 0, 1);
        faulty("l1;", 0, 1);
        faulty("m", 1, 1);
        faulty("m,", 1, 1);
        faulty("m1", 2, 1);
        faulty("m 1,1;", 1, 1);
        faulty("m100,1;l1;", 1, 1);
        faulty("m1234,1;l1;", 1, 1);
        faulty("m10;1;", 3, 1);
        faulty("m10,000;", 4, 1);
        faulty("m10,0,", 5, 1);
        faulty("m10,0;", 6, 1);
        faulty("m10,0;t0,1,1;", 6, 1);
        faulty("m10,0;7", 6, 1);
        faulty("m10,0;l", 7, 1);
        faulty("m10,0;l;", 7, 1);
        faulty("m10,0;l111;", 7, 1);
        faulty("m10,0;l1,", 8, 1);
        faulty("m10,0;l1", 8, 1);
        faulty("m10,0;l1;m", 9, 1);
        faulty("m10,0;l1;q0,1,1;", 9, 1);
        faulty("m10,0;l1;;", 9, 1);
        faulty("m10,0;l1;1", 9, 1);
        faulty("m10,0;l1;t", 10, 1);
        faulty("m10,0;l1;t0", 11, 1);
        faulty("m10,0;l1;t0;", 11, 1);
        faulty("m10,0;l1;t0,", 12, 1);
        faulty("m10,0;l1;t0,1;", 13, 1);
        faulty("m10,0;l1;t0,1,", 14, 1);
        faulty("m10,0;l1;t0,1,1", 15, 1);
        faulty("m10,0;l1;t0,1,1,", 15, 1);
        faulty("m10,0;l1;t0,1,100;", 14, 1);
        faulty("m10,0;l1;t0,1,1;l1;", 16, 1);
        faulty("m10,0;l1;t0,1,1;\n", 16, 1);
        faulty("m10,0;l1;t0,1,1;" + (char) 233, 16, 1);
    }

    private static void notAsTold() {
        faulty("m1,21;l1;", 3, 2);
        faulty("m1,99;l1;", 3, 2);
        faulty("m1,1;l0;", 6, 2);
        faulty("m1,1;l00;", 6, 2);
        faulty("m1,1;l21;", 6, 2);
        faulty("m1,1;l1;t1,1,1;", 9, 2);
        faulty("m1,1;l1;l1;t2,1,1;", 12, 2);
        faulty("m1,1;l1;l1;l1;v3,1,1;", 15, 2);
        faulty("m1,1;l1;t0,0,1;", 11, 2);
        faulty("m1,1;l1;t0,9,1;", 11, 2);
        faulty("m1,1;l1;t0,10,1;", 11, 2);
        faulty("m1,1;l1;t0,1,21;", 13, 2);
        faulty("m1,1;l1;t0,5,1;n0,5,1;", 18, 2);
        faulty("m1,1;l1;t0,5,1;n0,05,x", 18, 2);
        stands("m1,1;l1;l1;t0,5,1;n1,5,1;", 2);
    }

    private static void noRoom() {
        faulty("m1,1;l1;l1;l1;l1;", 14, 3);
        faulty("m1,1;l1;l1;l1;lx", 14, 3);
        faulty("m1,1;l1;t0,1,1;t0,2,1;t0,3,1;t0,4,1;t0,5,1;t0,6,1;t0,7,1;", 50, 3);
        faulty("m1,1;l1;t0,1,1;t0,2,1;t0,3,1;t0,4,1;t0,5,1;t0,6,1;v", 50, 3);
        faulty("m1,1;l1;t0,1,1;t0,2,1;t0,3,1;t0,4,1;t0,5,1;t0,6,1;x", 50, 1);
        faulty("m1,1;l1;t0,1,1;t0,2,1;t0,3,1;t0,4,1;t0,5,1;t0,6,1;l1;", 50, 1);
        faulty("m1,1;l1;l1;l1;t0,1,1;l1;", 21, 1);
    }

    private static void firstFaultIsTold() {
        faulty("m1,21;l0;t9,9,99;", 3, 2);
        faulty("m1,1;l0;l1;?", 6, 2);
        faulty("m1,1;l1;t7,9,21;", 9, 2);
        faulty("m1,1?l0;", 4, 1);
        HungStalls x = new HungStalls();
        Due.read(x, "m1,21;");
        Due.read(x, "m1,1;l1;");
        DUE.is("fault behind a good one", x.fault(), 2);
        Due.read(x, "?");
        DUE.is("the latest fault", x.fault(), 1);
    }

    private static void faultLeavesAll() {
        HungStalls x = Due.told("m5,3;l4;t0,2,6;");
        x.buyers(0, 4);
        x.rain();
        DUE.is("a fault", Due.read(x, "m9,9;l9;l9;t0,1,1;t"), -1000119);
        DUE.is("low", x.count(3), 5);
        DUE.is("slack", x.count(4), 4);
        DUE.is("stalls", x.count(2), 1);
        DUE.is("buyers", x.stall(0, 3), 4);
        DUE.is("acts", x.count(5), 2);
        DUE.is("undo", x.undo(), 1);
        DUE.is("slack", x.count(4), 3);
    }

    private static void newMarketIsNew() {
        HungStalls x = Due.told("m5,3;l4;t0,2,6;n0,3,1;");
        x.buyers(0, 4);
        x.girl(0, 1);
        x.unload(0, 1);
        x.cut(0);
        DUE.is("market", Due.read(x, "m6,2;l4;t0,2,6;"), 1);
        for (int what = 3; what <= 5; what++) {
            DUE.is("none of the old", x.stall(0, what), 0);
        }
        DUE.is("taut", x.rope(0, 1, 2), 4);
        DUE.is("low", x.count(3), 6);
        DUE.is("slack", x.count(4), 2);
        DUE.is("no act", x.count(5), 0);
        DUE.is("undo", x.undo(), Due.STATE);
        DUE.is("no stall 1", x.stall(1, 0), Due.BAD);
        DUE.is("place 3 is free", x.rope(0, 3, 3), Due.NONE);
    }

    private static void undoesEach() {
        HungStalls x = Due.told("m5,3;l4;l7;t0,2,6;v1,2,6;");
        x.buyers(0, 4);
        x.buyers(0, 9);
        x.girl(1, 1);
        x.girl(1, 1);
        x.girl(1, -1);
        x.slide(0, 5);
        x.slide(1, 5);
        x.slide(1, 8);
        x.unload(0, 1);
        x.unload(1, 1);
        x.unload(1, 0);
        x.rain();
        x.cut(1);
        DUE.is("acts", x.count(5), 13);
        int[][] behind = {{12, x.rope(1, 1, 2), 6}, {11, x.count(4), 4}};
        for (int[] b : behind) {
            DUE.is("ahead of it", b[1], b[2]);
            DUE.is("undo", x.undo(), b[0]);
        }
        DUE.is("taut", x.rope(1, 1, 2), 7);
        DUE.is("slack", x.count(4), 3);
        DUE.is("undo bring back", x.undo(), 10);
        DUE.is("off", x.stall(1, 5), 1);
        DUE.is("undo take off", x.undo(), 9);
        DUE.is("off", x.stall(1, 5), 0);
        DUE.is("off", x.stall(0, 5), 1);
        DUE.is("undo take off", x.undo(), 8);
        DUE.is("off", x.stall(0, 5), 0);
        DUE.is("undo slide", x.undo(), 7);
        DUE.is("place", x.stall(1, 1), 5);
        DUE.is("undo slide", x.undo(), 6);
        DUE.is("place", x.stall(1, 1), 2);
        DUE.is("undo slide", x.undo(), 5);
        DUE.is("place", x.stall(0, 1), 2);
        DUE.is("undo girl that went", x.undo(), 4);
        DUE.is("girls", x.stall(1, 4), 2);
        DUE.is("undo girl", x.undo(), 3);
        DUE.is("girls", x.stall(1, 4), 1);
        x.undo();
        DUE.is("girls", x.stall(1, 4), 0);
        DUE.is("undo buyers", x.undo(), 1);
        DUE.is("buyers", x.stall(0, 3), 4);
        DUE.is("undo buyers", x.undo(), 0);
        DUE.is("buyers", x.stall(0, 3), 0);
        DUE.is("undo none", x.undo(), Due.STATE);
    }

    private static void forgetsTheOldest() {
        HungStalls x = Due.told("m5,0;l4;t0,2,6;");
        for (int i = 1; i <= 20; i++) {
            x.buyers(0, i);
        }
        for (int i = 1; i <= 9; i++) {
            x.girl(0, 1);
            DUE.is("acts", x.count(5), Math.min(24, 20 + i));
        }
        DUE.is("a refused one is none", x.girl(0, 1), Due.FULL);
        DUE.is("acts", x.count(5), 24);
        for (int i = 23; i >= 0; i--) {
            DUE.is("undo", x.undo(), i);
        }
        DUE.is("undo none", x.undo(), Due.STATE);
        DUE.is("the five oldest stay done", x.stall(0, 3), 5);
        DUE.is("girls", x.stall(0, 4), 0);
        DUE.is("as many as there are", x.buyers(0, 5), 5);
        DUE.is("is an act, too", x.count(5), 1);
    }
}
