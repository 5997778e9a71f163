/** Promises 19 to 33: what is foretold, and images. */
public final class ForetoldTest {
    private static final Due DUE = new Due();

    public static void main(String[] args) {
        walkways();
        even();
        evenRefused();
        bestSlide();
        unloaded();
        unloadedRefused();
        whoCut();
        whoCutRefused();
        box();
        reads();
        readsRefused();
        holds();
        falls();
        dearest();
        rented();
        rentedRefused();
        wind();
        windRefused();
        images();
        nothingChanges();
        DUE.end();
    }

    private static void walkways() {
        HungStalls x = Due.told("m99,0;l20;l20;l20;t0,4,8;t1,4,12;t2,4,8;t0,5,0;t1,6,0;");
        DUE.is("walkway", x.walkway(0, 1), 1);
        DUE.is("walkway", x.walkway(1, 0), 1);
        DUE.is("two ropes apart", x.walkway(0, 2), 0);
        DUE.is("of one rope", x.walkway(0, 3), 0);
        DUE.is("of two places", x.walkway(3, 4), 0);
        DUE.is("walkways", x.walkways(0), 2);
        DUE.is("alike", x.walkway(1, 1), Due.BAD);
        DUE.is("stall 5", x.walkway(1, 5), Due.BAD);
        DUE.is("stall -1", x.walkway(-1, 1), Due.BAD);
        DUE.is("what 2", x.walkways(2), Due.BAD);
        DUE.is("what -1", x.walkways(-1), Due.BAD);
        x = Due.told("m99,0;l20;l20;t0,4,8;t1,4,9;");
        DUE.is("6 and 7 meet", x.walkway(0, 1), 2);
        DUE.is("meeting", x.walkways(1), 1);
        x.girl(1, 1);
        DUE.is("6 and 8 do not", x.walkway(0, 1), 1);
        DUE.is("meeting", x.walkways(1), 0);
        DUE.is("walkways", x.walkways(0), 1);
        x.slide(0, 3);
        DUE.is("none", x.walkways(0), 0);
        x = Due.told("m99,0;l20;l20;l20;t0,4,0;t1,4,0;t2,4,0;n0,8,0;n1,8,0;n2,8,0;");
        DUE.is("all", x.walkways(0), 4);
        DUE.is("all meet", x.walkways(1), 4);
        x = new HungStalls();
        DUE.is("STATE ahead of BAD", x.walkways(2), Due.STATE);
        DUE.is("no stalls", x.walkway(0, 1), Due.BAD);
    }

    private static void even() {
        HungStalls x = Due.told("m99,0;l20;l20;t0,4,8;t1,4,12;");
        DUE.is("at the first", x.even(0, 1, 0), 4);
        DUE.is("at the first", x.even(0, 1, 1), 4);
        DUE.is("at the other", x.even(1, 0, 0), 4);
        DUE.is("at the other", x.even(1, 0, 1), 0);
        DUE.is("depth stays", x.stall(0, 7), 5);
        DUE.is("girls stay", x.stall(0, 4) + x.stall(1, 4), 0);
        x = Due.told("m99,0;l1;l4;t0,4,0;t1,4,3;");
        DUE.is("at both", x.even(0, 1, 0), 2);
        DUE.is("at both", x.even(0, 1, 1), 1);
        DUE.is("at both", x.even(1, 0, 1), 1);
        x = Due.told("m99,0;l20;l20;t0,4,8;t1,4,9;");
        DUE.is("it meets now", x.even(0, 1, 0), 0);
        DUE.is("it meets now", x.even(0, 1, 1), 0);
        x = Due.told("m99,0;l20;l20;t0,4,0;t1,4,10;");
        DUE.is("9 are enough", x.even(0, 1, 0), 9);
        DUE.is("9 are enough", x.even(0, 1, 1), 9);
        x = Due.told("m99,0;l20;l20;t0,4,0;t1,4,11;");
        DUE.is("9 are too few", x.even(0, 1, 0), Due.NONE);
        DUE.is("9 are too few", x.even(0, 1, 1), Due.NONE);
        x = Due.told("m99,20;l18;l1;t0,8,14;v1,8,7;b0,4,13;");
        DUE.is("18 are enough", x.even(0, 1, 0), 18);
        DUE.is("18 are enough", x.even(0, 1, 1), 9);
        x = Due.told("m99,0;l20;l20;n0,4,0;t1,4,14;");
        for (int i = 0; i < 4; i++) {
            x.girl(0, 1);
        }
        DUE.is("9 more than stand there", x.even(0, 1, 0), 9);
        DUE.is("girls stay", x.stall(0, 4), 4);
    }

    private static void evenRefused() {
        HungStalls x = Due.told("m99,0;l20;l20;t0,4,8;t1,4,12;t0,5,1;");
        DUE.is("alike", x.even(0, 0, 0), Due.BAD);
        DUE.is("stall 3", x.even(0, 3, 0), Due.BAD);
        DUE.is("stall -1", x.even(-1, 1, 0), Due.BAD);
        DUE.is("what 2", x.even(0, 1, 2), Due.BAD);
        DUE.is("no walkway", x.even(0, 2, 0), Due.STATE);
        DUE.is("no walkway", x.even(1, 2, 1), Due.STATE);
        DUE.is("BAD ahead of STATE", x.even(0, 2, 2), Due.BAD);
    }

    private static void bestSlide() {
        HungStalls x = Due.told("m99,0;l20;l20;t0,4,5;t1,5,5;");
        DUE.is("stall 0 to place 5, ahead of 1 to 4", x.bestSlide(0), 5);
        DUE.is("one meets", x.bestSlide(1), 1);
        DUE.is("places stay", x.stall(0, 1), 4);
        x = Due.told("m99,0;l20;l20;l20;v2,8,0;t0,4,5;t1,5,5;");
        DUE.is("who slides", x.bestSlide(0), 9 + 5);
        DUE.is("one meets", x.bestSlide(1), 1);
        x = Due.told("m99,0;l20;l20;t0,1,0;t1,1,0;n0,2,0;n1,2,0;");
        DUE.is("both meet now", x.walkways(1), 2);
        DUE.is("by a slide one at most", x.bestSlide(1), 1);
        DUE.is("the first, to the first free place", x.bestSlide(0), 3);
        x = Due.told("m99,0;l5;t0,1,5;");
        DUE.is("none can meet", x.bestSlide(1), 0);
        DUE.is("the first place that is free", x.bestSlide(0), 2);
        x = Due.told("m99,0;l5;");
        DUE.is("none can slide", x.bestSlide(0), Due.NONE);
        DUE.is("none can slide", x.bestSlide(1), Due.NONE);
        DUE.is("what 2", x.bestSlide(2), Due.BAD);
        DUE.is("what -1", x.bestSlide(-1), Due.BAD);
        DUE.is("STATE ahead of BAD", new HungStalls().bestSlide(2), Due.STATE);
    }

    private static void orders(HungStalls x, int many, int... first) {
        DUE.is("orders", x.unloaded(-1), many);
        for (int k = 0; k < 6; k++) {
            DUE.is("stall " + k + " of the first order", x.unloaded(k), k < first.length ? first[k] : Due.NONE);
        }
    }

    private static void unloaded() {
        orders(Due.told("m99,0;l20;t0,4,1;t0,5,1;t0,6,1;"), 6, 0, 1, 2);
        orders(Due.told("m99,0;l20;l20;l20;t0,4,1;t0,5,1;t0,6,1;j1,1,1;n1,2,1;v2,3,3;"), 720, 0, 1, 2, 3, 4, 5);
        orders(Due.told("m5,0;l20;t0,4,10;v0,5,10;"), 1, 0, 1);
        orders(Due.told("m5,0;l20;v0,5,10;t0,4,10;"), 1, 1, 0);
        orders(Due.told("m5,0;l20;v0,5,10;t0,4,10;n0,1,1;"), 3, 1, 0, 2);
        orders(Due.told("m5,0;l20;t0,4,6;"), 0);
        orders(Due.told("m0,20;l20;"), 1);
        HungStalls x = Due.told("m99,0;l20;t0,4,1;t0,5,1;t0,6,1;");
        x.unload(1, 1);
        orders(x, 2, 0, 2);
        DUE.is("wares stay", x.stall(0, 5) + x.stall(2, 5), 0);
        DUE.is("wares stay off", x.stall(1, 5), 1);
        x.unload(0, 1);
        x.unload(2, 1);
        orders(x, 1);
        x = Due.told("m5,0;l20;t0,4,0;");
        x.buyers(0, 6);
        orders(x, 0);
        x.unload(0, 1);
        orders(x, 0);
        // the table must go ahead of both vultures that lift it
        x = Due.told("m5,0;l20;v0,5,10;v0,3,10;t0,4,20;");
        DUE.is("none drops", x.drops(), 0);
        orders(x, 2, 2, 0, 1);
    }

    private static void unloadedRefused() {
        HungStalls x = Due.told("m99,0;l20;t0,4,1;");
        DUE.is("k -2", x.unloaded(-2), Due.BAD);
        DUE.is("k 6", x.unloaded(6), Due.BAD);
        DUE.is("STATE ahead of BAD", new HungStalls().unloaded(6), Due.STATE);
    }

    private static void whoCut() {
        HungStalls x = Due.told("m99,0;l20;l10;l1;t0,4,19;t1,1,5;n2,8,0;");
        int[] row = {0, 0, 0};
        for (int rope = 0; rope < 2; rope++) {
            x.cut(rope);
            for (int i = 0; i < 3; i++) {
                row[i] = x.stall(i, 7);
            }
            x.undo();
            Due.fillRow(x, rope, 1, row);
            DUE.is("who cut", x.whoCut(rope, 0), 1 << rope);
            x.set(rope, 1, row[1] + 1);
            DUE.is("nobody", x.whoCut(rope, 0), 0);
        }
        DUE.is("taut stays", x.rope(0, 1, 2), 20);
        x = Due.told("m99,0;l20;l10;l1;t0,4,0;");
        Due.fillRow(x, 0, 0, 5, 0, 7);
        DUE.is("either, but not at taut 1", x.whoCut(0, 1), 3);
        DUE.is("not so", x.whoCut(0, 0), 0);
        DUE.is("not so", x.whoCut(0, 2), 0);
        x = Due.told("m99,0;l20;t0,4,19;");
        Due.fillRow(x, 0, 2, 19);
        DUE.is("as it is now", x.whoCut(0, 0), 0);
        x = Due.told("m99,0;l2;l1;");
        x.row(0, 0, 2);
        DUE.is("without stalls", x.whoCut(0, 2), 1);
        DUE.is("beyond the end", x.whoCut(0, 3), Due.PLACE);
        DUE.is("ahead of the first", x.whoCut(0, -1), Due.PLACE);
    }

    private static void whoCutRefused() {
        HungStalls x = Due.told("m99,0;l20;t0,4,19;t0,5,1;");
        x.row(0, 0, 3);
        DUE.is("row 8", x.whoCut(8, 0), Due.BAD);
        DUE.is("row -1", x.whoCut(-1, 0), Due.BAD);
        DUE.is("missing", x.whoCut(1, 0), Due.NULL);
        DUE.is("NULL ahead of PLACE", x.whoCut(1, -1), Due.NULL);
        DUE.is("place -1", x.whoCut(0, -1), Due.PLACE);
        DUE.is("place 2 of 3, for two", x.whoCut(0, 2), Due.PLACE);
        DUE.is("place most", x.whoCut(0, Integer.MAX_VALUE), Due.PLACE);
        DUE.is("place 1", x.whoCut(0, 1), 0);
        x = new HungStalls();
        DUE.is("STATE ahead of BAD", x.whoCut(8, 0), Due.STATE);
        DUE.is("STATE ahead of NULL", x.whoCut(0, 0), Due.STATE);
        DUE.is("status", x.status(), 0);
    }

    private static void box() {
        HungStalls x = Due.told("m99,0;l20;t0,1,10;");
        int[][] due = {{0, 0, 2}, {1, 3, 4}, {2, 5, 7}, {3, 8, 9}, {4, 10, 12}, {8, 20, 20}, {9, Due.NONE, Due.NONE}, {-1, Due.NONE, Due.NONE},
            {9999, Due.NONE, Due.NONE}, {-9999, Due.NONE, Due.NONE}, {10000, Due.BAD, Due.BAD}, {-10000, Due.BAD, Due.BAD}};
        for (int[] d : due) {
            DUE.is("least for " + d[0], x.box(0, d[0], 0), d[1]);
            DUE.is("most for " + d[0], x.box(0, d[0], 1), d[2]);
        }
        DUE.is("goods stay", x.stall(0, 2), 10);
        DUE.is("stall 1", x.box(1, 0, 0), Due.BAD);
        DUE.is("stall -1", x.box(-1, 0, 0), Due.BAD);
        DUE.is("what 2", x.box(0, 0, 2), Due.BAD);
        x.unload(0, 1);
        DUE.is("taken off: any", x.box(0, 0, 0), 0);
        DUE.is("taken off: any", x.box(0, 0, 1), 20);
        DUE.is("taken off", x.box(0, 1, 0), Due.NONE);
        x = Due.told("m99,0;l20;j0,4,1;b0,5,0;");
        DUE.is("of a jeweller", x.box(0, 3, 0), 6);
        DUE.is("of a jeweller", x.box(0, 3, 1), 7);
        DUE.is("of a butcher", x.box(1, 6, 1), 3);
        x = Due.told("m99,0;l20;v0,4,1;");
        DUE.is("of a vulture", x.box(0, -6, 0), 6);
    }

    private static void reads() {
        HungStalls x = Due.told("m99,0;l20;t0,4,0;t0,5,0;");
        Due.fillRow(x, 0, 1, 1, 8, 9);
        DUE.is("ways", x.reads(0, 1, 0, 1, 0), 4);
        DUE.is("the first: 1, 9", x.reads(0, 1, 0, 1, 1), 30);
        DUE.is("ways", x.reads(1, 0, 0, 1, 0), 4);
        DUE.is("the first: 6, 4", x.reads(1, 0, 0, 1, 1), 130);
        DUE.is("goods stay", x.stall(0, 2) + x.stall(1, 2), 0);
        DUE.is("no way", x.reads(0, 1, 0, 0, 0), 0);
        DUE.is("no way", x.reads(0, 1, 0, 0, 1), Due.NONE);
        DUE.is("status", x.status(), 0);
        x.unload(0, 1);
        x.unload(1, 1);
        Due.fillRow(x, 0, 1, 0, 0);
        DUE.is("all ways", x.reads(0, 1, 0, 0, 0), 441);
        DUE.is("the first", x.reads(0, 1, 0, 0, 1), 0);
        x = Due.told("m99,0;l20;l20;t0,4,20;t1,4,20;b1,1,3;");
        Due.fillRow(x, 0, 2, x.stall(0, 7), x.stall(1, 7), x.stall(2, 7) + 1);
        DUE.is("the third is told otherwise", x.reads(0, 1, 0, 0, 0), 0);
    }

    private static void readsRefused() {
        HungStalls x = Due.told("m99,0;l20;t0,4,0;t0,5,0;");
        x.row(0, 0, 3);
        DUE.is("alike", x.reads(1, 1, 0, 0, 0), Due.BAD);
        DUE.is("stall 2", x.reads(0, 2, 0, 0, 0), Due.BAD);
        DUE.is("stall -1", x.reads(-1, 1, 0, 0, 0), Due.BAD);
        DUE.is("row 8", x.reads(0, 1, 8, 0, 0), Due.BAD);
        DUE.is("row -1", x.reads(0, 1, -1, 0, 0), Due.BAD);
        DUE.is("what 2", x.reads(0, 1, 0, 0, 2), Due.BAD);
        DUE.is("BAD ahead of NULL", x.reads(0, 1, 1, 0, 2), Due.BAD);
        DUE.is("missing", x.reads(0, 1, 1, 0, 0), Due.NULL);
        DUE.is("NULL ahead of PLACE", x.reads(0, 1, 1, 9, 0), Due.NULL);
        DUE.is("place 2 of 3, for two", x.reads(0, 1, 0, 2, 0), Due.PLACE);
        DUE.is("place -1", x.reads(0, 1, 0, -1, 0), Due.PLACE);
        DUE.is("place least", x.reads(0, 1, 0, Integer.MIN_VALUE, 0), Due.PLACE);
        DUE.is("status", x.status(), 2);
    }

    private static void holds() {
        HungStalls x = Due.told("m10,0;l5;l9;t0,4,8;");
        DUE.is("15 do", x.holds(0), 15);
        DUE.is("taut stays", x.rope(0, 1, 2), 5);
        DUE.is("the other does not matter", x.holds(1), Due.NONE);
        DUE.is("rope 2", x.holds(2), Due.BAD);
        DUE.is("rope -1", x.holds(-1), Due.BAD);
        x = Due.told("m99,0;l20;t0,4,4;");
        DUE.is("1 does", x.holds(0), 1);
        x = Due.told("m0,1;l5;t0,4,8;");
        DUE.is("none does", x.holds(0), Due.NONE);
        x = Due.told("m19,0;l20;b0,4,19;");
        x.girl(0, 1);
        DUE.is("40 do", x.holds(0), 40);
        x = Due.told("m19,0;l20;b0,4,20;");
        DUE.is("only 41 would do", x.holds(0), Due.NONE);
        x = Due.told("m4,0;l20;l20;t0,4,0;t1,4,1;v1,5,20;");
        DUE.is("a rope that lifts", x.holds(0), 1);
        DUE.is("where a lifted neighbour falls", x.holds(1), 16);
    }

    private static void falls() {
        HungStalls x = Due.told("m98,0;l5;t0,1,0;");
        DUE.is("99 times", x.falls(0), 99);
        DUE.is("who", x.falls(1), 0);
        x.slide(0, 4);
        DUE.is("slack stays", x.count(4), 0);
        x = Due.told("m99,0;l5;t0,1,0;");
        DUE.is("not by 99", x.falls(0), Due.NONE);
        DUE.is("not by 99", x.falls(1), Due.NONE);
        x = Due.told("m9,0;l20;v0,8,1;t0,4,4;t0,5,0;");
        DUE.is("times", x.falls(0), 7);
        DUE.is("who", x.falls(1), 1);
        x = Due.told("m9,0;l20;t0,1,0;t0,4,0;");
        DUE.is("both at once: the first", x.falls(1), 0);
        x = Due.told("m1,0;l20;t0,4,0;t0,5,4;");
        DUE.is("now", x.falls(0), 0);
        DUE.is("who", x.falls(1), 0);
        DUE.is("STATE ahead of BAD", new HungStalls().falls(2), Due.STATE);
        x = Due.told("m99,20;l20;v0,4,20;");
        for (int i = 20; i < 99; i++) {
            x.rain();
        }
        DUE.is("beyond a slack of 99", x.falls(0), 21);
        DUE.is("what 2", x.falls(2), Due.BAD);
        DUE.is("what -1", x.falls(-1), Due.BAD);
        DUE.is("no stall", Due.told("m0,20;l1;").falls(0), Due.NONE);
    }

    private static void dearest() {
        HungStalls x = Due.told("m99,20;l20;v0,4,20;t0,1,0;");
        DUE.is("the first at which it is lifted most", x.dearest(0), 3);
        DUE.is("place stays", x.stall(0, 1), 4);
        x.slide(1, 3);
        DUE.is("place 3 is taken", x.dearest(0), 4);
        x = Due.told("m99,0;l20;t0,4,20;");
        DUE.is("near the rim", x.dearest(0), 1);
        x = Due.told("m99,0;l20;t0,4,20;n0,1,0;");
        DUE.is("at the other rim", x.dearest(0), 8);
        DUE.is("its own, of several the least", x.dearest(1), 1);
        x = Due.told("m99,0;l20;n0,8,1;v0,1,0;");
        DUE.is("alike everywhere: the least that is free", x.dearest(0), 2);
        DUE.is("alike everywhere: its own is the least", x.dearest(1), 1);
        x = Due.told("m99,0;l1;t0,8,0;");
        DUE.is("0 everywhere", x.dearest(0), 1);
        DUE.is("stall 1", x.dearest(1), Due.BAD);
        DUE.is("stall -1", x.dearest(-1), Due.BAD);
    }

    private static void rented() {
        HungStalls x = Due.told("m99,0;l20;l20;t0,4,10;t1,4,10;n0,5,2;");
        DUE.is("anywhere but at 4", x.rented(2, 0, 1), 247);
        DUE.is("the other way", x.rented(2, 1, 0), 247);
        x = Due.told("m99,0;l20;l20;t0,4,10;t1,4,10;n0,5,5;");
        DUE.is("at the rims", x.rented(2, 0, 1), 129);
        DUE.is("place stays", x.stall(2, 1), 5);
        x.slide(2, 8);
        DUE.is("his own, too", x.rented(2, 0, 1), 129);
        x = Due.told("m99,0;l20;l20;t0,4,10;t1,4,10;n0,5,5;t0,8,0;");
        DUE.is("8 is taken", x.rented(2, 0, 1), 1);
        x = Due.told("m99,0;l20;l20;t0,4,10;t1,4,11;v1,5,5;");
        int bits = x.rented(2, 0, 1);
        for (int place = 1; place <= 8; place++) {
            boolean can = place != 4;
            if (can && place != 5) {
                x.slide(2, place);
            }
            DUE.is("a vulture at " + place, bits >> (place - 1) & 1, can && x.walkway(0, 1) == 2 ? 1 : 0);
            if (can && place != 5) {
                x.undo();
            }
        }
    }

    private static void rentedRefused() {
        HungStalls x = Due.told("m99,0;l20;l20;t0,4,10;t1,4,10;n0,5,2;v1,5,1;t0,8,0;");
        DUE.is("alike", x.rented(2, 0, 0), Due.BAD);
        DUE.is("stall 5", x.rented(5, 0, 1), Due.BAD);
        DUE.is("stall 5", x.rented(2, 5, 1), Due.BAD);
        DUE.is("stall 5", x.rented(2, 0, 5), Due.BAD);
        DUE.is("stall -1", x.rented(-1, 0, 1), Due.BAD);
        DUE.is("no notary", x.rented(4, 0, 1), Due.STATE);
        DUE.is("no walkway", x.rented(2, 0, 4), Due.STATE);
        DUE.is("he is one of them", x.rented(2, 2, 3), Due.STATE);
        DUE.is("he is one of them", x.rented(3, 2, 3), Due.STATE);
        DUE.is("BAD ahead of STATE", x.rented(4, 1, 1), Due.BAD);
        DUE.is("a vulture is one, too", x.rented(3, 0, 1) >= 0 ? 1 : 0, 1);
    }

    private static void wind() {
        // of seed 20 the first draw, 336140, has a rest of 0 by 20, and none of the next three
        HungStalls x = Due.told("m9,0;l5;t0,4,2;");
        DUE.is("no hour", x.wind(0, 20, 0), 5);
        DUE.is("no hour", x.wind(0, 20, -1), 0);
        DUE.is("taut", x.wind(1, 20, 0), 4);
        DUE.is("behind its draws it drops", x.wind(1, 20, -1), 0);
        DUE.is("taut", x.wind(2, 20, 0), 4);
        DUE.is("both hours", x.wind(2, 20, -1), 0);
        DUE.is("taut stays", x.rope(0, 1, 2), 5);
        DUE.is("no cut by seed 1", x.wind(8, 1, -1), 8);
        DUE.is("no cut by seed 1", x.wind(8, 1, 0), 5);
        x = Due.told("m10,0;l5;t0,4,2;");
        DUE.is("it holds by 4", x.wind(1, 20, -1), 1);
        x = Due.told("m9,0;l5;l5;");
        DUE.is("the first draw is of the first rope", x.wind(1, 20, 0), 4);
        DUE.is("the second of the second", x.wind(1, 20, 1), 5);
        x = Due.told("m9,0;l1;");
        DUE.is("not below 1", x.wind(1, 20, 0), 1);
        x = Due.told("m99,0;l20;l3;");
        long drawn = 4242;
        int[] taut = {20, 3};
        for (int hour = 1; hour <= 40; hour++) {
            for (int rope = 0; rope < 2; rope++) {
                drawn = drawn * 16807 % 2147483647;
                taut[rope] -= drawn % 20 == 0 && taut[rope] > 1 ? 1 : 0;
            }
            DUE.is("hour " + hour, x.wind(hour, 4242, 0), taut[0]);
            DUE.is("hour " + hour, x.wind(hour, 4242, 1), taut[1]);
            DUE.is("hour " + hour, x.wind(hour, 4242, -1), hour);
        }
    }

    private static void windRefused() {
        HungStalls x = Due.told("m9,0;l5;l5;t0,4,2;");
        DUE.is("n -1", x.wind(-1, 1, 0), Due.BAD);
        DUE.is("n 41", x.wind(41, 1, 0), Due.BAD);
        DUE.is("seed 0", x.wind(1, 0, 0), Due.BAD);
        DUE.is("seed 1000000", x.wind(1, 1000000, 0), Due.BAD);
        DUE.is("seed 999999", x.wind(0, 999999, 1), 5);
        DUE.is("rope 2", x.wind(1, 1, 2), Due.BAD);
        DUE.is("rope -2", x.wind(1, 1, -2), Due.BAD);
        DUE.is("STATE ahead of BAD", new HungStalls().wind(-1, 0, -2), Due.STATE);
    }

    private static void images() {
        HungStalls x = Due.told("m9,1;l5;l6;j0,4,2;v1,3,7;");
        x.buyers(0, 3);
        x.girl(1, 1);
        x.unload(1, 1);
        x.slide(0, 6);
        x.rain();
        x.cut(1);
        DUE.is("image", x.image(0), 1);
        DUE.is("acts stay", x.count(5), 6);
        x.buyers(0, 9);
        x.girl(1, 1);
        x.unload(1, 0);
        x.slide(0, 1);
        x.rain();
        x.cut(1);
        x.cut(0);
        DUE.is("image 1", x.image(1), 1);
        Due.read(x, "m50,0;l1;t0,1,1;");
        x.rain();
        for (int times = 0; times < 2; times++) {
            DUE.is("restore", x.restore(0), 1);
            DUE.is("no act", x.count(5), 0);
            DUE.is("undo", x.undo(), Due.STATE);
            int[] due = {x.count(1), 2, x.count(2), 2, x.count(3), 9, x.count(4), 2, x.rope(0, 1, 2), 5, x.rope(1, 1, 2), 5, x.kind(0), 2, x.kind(1), 5,
                x.stall(0, 1), 6, x.stall(0, 2), 2, x.stall(0, 3), 3, x.stall(1, 0), 1, x.stall(1, 4), 1, x.stall(1, 5), 1};
            for (int i = 0; i < due.length; i += 2) {
                DUE.is("as it was, " + i, due[i], due[i + 1]);
            }
            x.buyers(0, 20);
            x.cut(0);
            x.slide(0, 8);
        }
        DUE.is("restore 1", x.restore(1), 1);
        DUE.is("buyers", x.stall(0, 3), 9);
        DUE.is("taut", x.rope(0, 1, 2), 4);
        DUE.is("wares", x.stall(1, 5), 0);
        DUE.is("restore -1", x.restore(-1), Due.BAD);
        DUE.is("restore 2", x.restore(2), Due.BAD);
        DUE.is("image -1", x.image(-1), Due.BAD);
        DUE.is("image 2", x.image(2), Due.BAD);
        x = Due.told("m9,1;l5;");
        x.image(1);
        DUE.is("none was kept", x.restore(0), Due.STATE);
        x = new HungStalls();
        DUE.is("BAD ahead of STATE", x.image(2), Due.BAD);
        DUE.is("no market", x.image(1), Due.STATE);
        DUE.is("none was kept", x.restore(1), Due.STATE);
    }

    private static void nothingChanges() {
        HungStalls x = Due.told("m20,1;l5;l6;l7;j0,4,9;b1,4,4;n1,5,7;v2,4,9;t2,5,8;");
        x.unload(1, 1);
        x.row(0, 1, 9);
        int[] before = look(x);
        x.even(0, 1, 0);
        x.bestSlide(0);
        x.unloaded(0);
        x.whoCut(0, 1);
        x.box(0, 3, 0);
        x.reads(0, 1, 0, 1, 1);
        x.holds(1);
        x.falls(0);
        x.dearest(2);
        x.rented(2, 0, 1);
        x.wind(40, 5, 1);
        x.image(0);
        int[] behind = look(x);
        for (int i = 0; i < before.length; i++) {
            DUE.is("what is there, " + i, behind[i], before[i]);
        }
    }

    private static int[] look(HungStalls x) {
        int[] all = new int[5 * 9 + 3 * 8 * 4 + 7];
        int n = 0;
        for (int i = 0; i < 5; i++) {
            for (int what = 0; what < 9; what++) {
                all[n++] = x.stall(i, what);
            }
        }
        for (int rope = 0; rope < 3; rope++) {
            for (int place = 1; place <= 8; place++) {
                for (int what = 0; what < 4; what++) {
                    all[n++] = x.rope(rope, place, what);
                }
            }
        }
        for (int what = 0; what < 7; what++) {
            all[n++] = x.count(what);
        }
        return all;
    }
}
