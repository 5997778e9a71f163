/** Promises 10 to 18: what is done, and how deep all hangs then. */
public final class DoneTest {
    private static final Due DUE = new Due();
    private static final String ALL_SORTS = "m99,0;l20;t0,4,9;j0,5,9;b0,6,9;n0,7,9;v0,8,9;";

    public static void main(String[] args) {
        buyers();
        girls();
        slides();
        unloads();
        rains();
        cuts();
        weights();
        sags();
        depths();
        prices();
        ropes();
        drops();
        DUE.end();
    }

    private static void buyers() {
        HungStalls x = Due.told(ALL_SORTS);
        DUE.is("buyers", x.buyers(1, 20), 0);
        DUE.is("buyers", x.buyers(1, 7), 20);
        DUE.is("buyers", x.buyers(1, 0), 7);
        DUE.is("of it", x.stall(1, 3), 0);
        DUE.is("of a notary", x.buyers(3, 5), 0);
        DUE.is("of it", x.stall(3, 3), 5);
        DUE.is("-1", x.buyers(1, -1), Due.BAD);
        DUE.is("21", x.buyers(1, 21), Due.BAD);
        DUE.is("stall 5", x.buyers(5, 1), Due.BAD);
        DUE.is("stall -1", x.buyers(-1, 1), Due.BAD);
        DUE.is("acts", x.count(5), 4);
    }

    private static void girls() {
        HungStalls x = Due.told(ALL_SORTS);
        DUE.is("none is there", x.girl(2, -1), Due.STATE);
        for (int i = 1; i <= 9; i++) {
            DUE.is("hired", x.girl(2, 1), i);
        }
        DUE.is("9 are there", x.girl(2, 1), Due.FULL);
        DUE.is("goes", x.girl(2, -1), 8);
        DUE.is("of it", x.stall(2, 4), 8);
        DUE.is("of another", x.stall(1, 4), 0);
        DUE.is("by 0", x.girl(2, 0), Due.BAD);
        DUE.is("by 2", x.girl(2, 2), Due.BAD);
        DUE.is("by -2", x.girl(2, -2), Due.BAD);
        DUE.is("stall 5", x.girl(5, -1), Due.BAD);
        DUE.is("acts", x.count(5), 10);
    }

    private static void slides() {
        HungStalls x = Due.told("m99,0;l20;l20;t0,4,9;j0,5,9;t1,7,9;");
        DUE.is("slide", x.slide(0, 7), 4);
        DUE.is("place", x.stall(0, 1), 7);
        DUE.is("slide", x.slide(0, 1), 7);
        DUE.is("slide", x.slide(0, 8), 1);
        DUE.is("another is there", x.slide(0, 5), Due.STATE);
        DUE.is("it is there", x.slide(0, 8), Due.STATE);
        DUE.is("on another rope it is free", x.slide(1, 7), 5);
        DUE.is("place 0", x.slide(0, 0), Due.BAD);
        DUE.is("place 9", x.slide(0, 9), Due.BAD);
        DUE.is("stall 3", x.slide(3, 1), Due.BAD);
        DUE.is("stall -1", x.slide(-1, 1), Due.BAD);
        DUE.is("place", x.stall(0, 1), 8);
        DUE.is("acts", x.count(5), 4);
    }

    private static void unloads() {
        HungStalls x = Due.told(ALL_SORTS);
        x.buyers(2, 3);
        DUE.is("it is so", x.unload(2, 0), Due.STATE);
        DUE.is("off", x.unload(2, 1), 3);
        DUE.is("of it", x.stall(2, 5), 1);
        DUE.is("goods stay", x.stall(2, 2), 9);
        DUE.is("it is so", x.unload(2, 1), Due.STATE);
        DUE.is("back", x.unload(2, 0), 21);
        DUE.is("of it", x.stall(2, 5), 0);
        DUE.is("off 2", x.unload(2, 2), Due.BAD);
        DUE.is("off -1", x.unload(2, -1), Due.BAD);
        DUE.is("stall 5", x.unload(5, 1), Due.BAD);
        DUE.is("acts", x.count(5), 3);
    }

    private static void rains() {
        HungStalls x = Due.told("m99,20;l20;");
        for (int slack = 21; slack <= 99; slack++) {
            DUE.is("rain", x.rain(), slack);
        }
        DUE.is("rain", x.rain(), Due.FULL);
        DUE.is("slack", x.count(4), 99);
        DUE.is("sag", x.rope(0, 3, 0), 99);
        DUE.is("undo", x.undo(), 23);
        DUE.is("rain", x.rain(), 99);
    }

    private static void cuts() {
        HungStalls x = Due.told("m99,0;l3;l1;");
        DUE.is("cut", x.cut(0), 2);
        DUE.is("cut", x.cut(0), 1);
        DUE.is("taut is 1", x.cut(0), Due.STATE);
        DUE.is("taut is 1", x.cut(1), Due.STATE);
        DUE.is("rope 2", x.cut(2), Due.BAD);
        DUE.is("rope -1", x.cut(-1), Due.BAD);
        DUE.is("taut", x.rope(0, 1, 2), 1);
        DUE.is("acts", x.count(5), 2);
    }

    private static void weights() {
        HungStalls x = Due.told(ALL_SORTS);
        int[] bare = {9, 4, 18, 9, -9};
        int[] withBuyers = {16, 11, 25, 9, -9};
        int[] withGirl = {17, 12, 26, 10, -8};
        int[] off = {8, 8, 8, 1, 1};
        for (int i = 0; i < 5; i++) {
            DUE.is("bare " + i, x.stall(i, 6), bare[i]);
            x.buyers(i, 7);
            DUE.is("buyers " + i, x.stall(i, 6), withBuyers[i]);
            x.girl(i, 1);
            DUE.is("girl " + i, x.stall(i, 6), withGirl[i]);
            DUE.is("off " + i, x.unload(i, 1), off[i]);
        }
        DUE.is("stall 5", x.stall(5, 6), Due.BAD);
        DUE.is("stall -1", x.stall(-1, 6), Due.BAD);
        DUE.is("what 9", x.stall(0, 9), Due.BAD);
        DUE.is("what -1", x.stall(0, -1), Due.BAD);
    }

    private static void sags() {
        HungStalls x = Due.told("m99,2;l7;t0,3,10;");
        int[] due = {60, 120, 180, 150, 120, 90, 60, 30};
        for (int i = 0; i < 8; i++) {
            DUE.is("sag at " + (i + 1), x.rope(0, i + 1, 0), due[i] / 7 + 2);
        }
        x = Due.told("m99,2;l7;v0,3,10;");
        DUE.is("a lifted one is cut towards 0", x.rope(0, 1, 0), -6);
        DUE.is("a lifted one is cut towards 0", x.rope(0, 8, 0), -2);
        x = Due.told("m99,0;l5;t0,1,1;t0,2,1;");
        DUE.is("added ahead of the cut", x.rope(0, 1, 0), 3);
        DUE.is("both", x.rope(0, 2, 0), 4);
        x = Due.told("m99,0;l1;b0,4,20;b0,5,20;");
        x.buyers(0, 20);
        DUE.is("deep", x.rope(0, 4, 0), 60 * 20 + 40 * 16);
    }

    private static void depths() {
        HungStalls x = Due.told("m99,0;l20;l20;t0,4,8;t1,4,12;");
        DUE.is("depth", x.stall(0, 7), 5);
        DUE.is("depth", x.stall(1, 7), 10);
        DUE.is("where none stands", x.rope(0, 5, 1), 6 - 9 / 4);
        x = Due.told("m99,0;l20;l20;l20;t0,4,2;t1,4,1;t2,4,2;");
        DUE.is("sags are added ahead of the fourth", x.stall(1, 7), 0);
        DUE.is("one neighbour", x.stall(0, 7), 2);
        DUE.is("one neighbour", x.stall(2, 7), 2);
        x = Due.told("m99,0;l20;l20;t0,4,0;v1,4,3;");
        DUE.is("a fourth of -3", x.stall(0, 7), 0);
        DUE.is("depth of -3", x.stall(1, 7), -3);
        x = Due.told("m99,0;l20;l20;t0,4,0;v1,4,7;");
        DUE.is("a fourth of -7", x.stall(0, 7), 1);
        x = Due.told("m99,8;l20;l20;l20;t0,4,0;t1,4,0;");
        DUE.is("slack of one neighbour", x.stall(0, 7), 6);
        DUE.is("slack of two", x.stall(1, 7), 4);
    }

    private static void prices() {
        HungStalls x = Due.told("m99,0;l20;t0,4,10;");
        DUE.is("10 less 10 by 5", x.stall(0, 8), 8);
        x.buyers(0, 20);
        DUE.is("10 less 30 by 5", x.stall(0, 8), 4);
        x.girl(0, 1);
        DUE.is("31 by 5 is cut", x.stall(0, 8), 4);
        for (int i = 0; i < 18; i++) {
            x.cut(0);
        }
        DUE.is("0 at least", x.stall(0, 8), 0);
        x = Due.told("m99,0;l20;v0,4,4;");
        DUE.is("-4 by 5 is 0", x.stall(0, 8), 4);
        x = Due.told("m99,0;l20;v0,4,9;");
        DUE.is("-9 by 5 is -1", x.stall(0, 8), 10);
        x.unload(0, 1);
        DUE.is("by goods, though wares are off", x.stall(0, 8), 9);
    }

    private static void ropes() {
        HungStalls x = Due.told("m99,0;l20;l7;t0,4,8;t1,4,12;");
        DUE.is("who", x.rope(0, 4, 3), 0);
        DUE.is("who", x.rope(1, 4, 3), 1);
        DUE.is("nobody", x.rope(1, 3, 3), Due.NONE);
        DUE.is("taut", x.rope(1, 3, 2), 7);
        x.slide(1, 3);
        DUE.is("who", x.rope(1, 3, 3), 1);
        DUE.is("nobody", x.rope(1, 4, 3), Due.NONE);
        DUE.is("rope 2", x.rope(2, 1, 0), Due.BAD);
        DUE.is("rope -1", x.rope(-1, 1, 0), Due.BAD);
        DUE.is("place 0", x.rope(0, 0, 0), Due.BAD);
        DUE.is("place 9", x.rope(0, 9, 0), Due.BAD);
        DUE.is("what 4", x.rope(0, 1, 4), Due.BAD);
        DUE.is("what -1", x.rope(0, 1, -1), Due.BAD);
    }

    private static void drops() {
        HungStalls x = Due.told("m10,0;l20;l20;t0,4,8;t1,4,12;");
        DUE.is("as deep as low is no drop", x.drops(), 0);
        x.girl(1, 1);
        DUE.is("above low", x.drops(), 2);
        x.buyers(0, 20);
        DUE.is("the other one", x.drops(), 1);
        x.undo();
        x.undo();
        DUE.is("none", x.drops(), 0);
        DUE.is("no stalls", Due.told("m0,20;l1;").drops(), 0);
        x = Due.told("m0,1;l1;t0,1,1;t0,2,1;t0,3,1;t0,4,1;t0,5,1;v0,6,0;");
        DUE.is("all", x.drops(), 63);
    }
}
