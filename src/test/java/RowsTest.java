/** Promises 1 to 5 and 39: the new object, rows, and what status() tells of them. */
public final class RowsTest {
    private static final int MAX = Integer.MAX_VALUE, MIN = Integer.MIN_VALUE;
    private static final Due DUE = new Due();

    public static void main(String[] args) {
        newObject();
        rowsBegin();
        rowsRefused();
        itemsAreCutToTheirLane();
        setRefused();
        copies();
        copiesOverThemselves();
        copyRefused();
        drops();
        statusOfLatest();
        DUE.end();
    }

    /** Its one stall hangs at 20 behind a cut, so that whoCut tells whether an item is 20. */
    private static HungStalls peeking() {
        return Due.told("m99,0;l20;t0,4,19;");
    }

    private static void newObject() {
        HungStalls x = new HungStalls();
        for (int what = 0; what < 7; what++) {
            DUE.is("new: count " + what, x.count(what), 0);
        }
        DUE.is("new: status", x.status(), 0);
        DUE.is("new: fault", x.fault(), 0);
        DUE.is("new: drops", x.drops(), Due.STATE);
        DUE.is("new: undo", x.undo(), Due.STATE);
        DUE.is("new: rain", x.rain(), Due.STATE);
        DUE.is("new: stall", x.stall(0, 0), Due.BAD);
        DUE.is("new: rope", x.rope(0, 1, 0), Due.BAD);
        DUE.is("new: image", x.image(0), Due.STATE);
        DUE.is("new: restore", x.restore(1), Due.STATE);
        DUE.is("new: trace", x.trace(0), Due.NONE);
        for (int row = 0; row < 8; row++) {
            DUE.is("new: drop", x.drop(row), Due.NULL);
        }
    }

    private static void rowsBegin() {
        HungStalls x = peeking();
        for (int lane = 0; lane < 3; lane++) {
            DUE.is("row with 40", x.row(lane, lane, 40), 40);
            DUE.is("its last item", x.set(lane, 39, 20), 20);
            DUE.is("whoCut", x.whoCut(lane, 39), 1);
            DUE.is("row anew", x.row(lane, lane, 40), 40);
            DUE.is("its items are 0 again", x.whoCut(lane, 39), 0);
        }
        DUE.is("row with none", x.row(7, 0, 0), 0);
        DUE.is("rows", x.count(0), 4);
        DUE.is("an item of it", x.set(7, 0, 1), Due.PLACE);
        DUE.is("shorter", x.row(0, 1, 3), 3);
        DUE.is("item 2", x.set(0, 2, 40000), -25536);
        DUE.is("item 3", x.set(0, 3, 1), Due.PLACE);
        DUE.is("rows", x.count(0), 4);
    }

    private static void rowsRefused() {
        HungStalls x = peeking();
        Due.fillRow(x, 0, 0, 20, 20);
        DUE.is("row -1", x.row(-1, 0, 1), Due.BAD);
        DUE.is("row 8", x.row(8, 0, 1), Due.BAD);
        DUE.is("lane -1", x.row(0, -1, 1), Due.BAD);
        DUE.is("lane 3", x.row(0, 3, 1), Due.BAD);
        DUE.is("n 41", x.row(0, 0, 41), Due.BAD);
        DUE.is("n most", x.row(0, 0, MAX), Due.BAD);
        DUE.is("status stays", x.status(), 0);
        DUE.is("n -1", x.row(0, 0, -1), Due.SIZE);
        DUE.is("n least", x.row(1, 2, MIN), Due.SIZE);
        DUE.is("status", x.status(), 4);
        DUE.is("BAD ahead of SIZE, row", x.row(8, 0, -1), Due.BAD);
        DUE.is("BAD ahead of SIZE, lane", x.row(0, 3, -1), Due.BAD);
        DUE.is("status stays", x.status(), 4);
        DUE.is("what was there stays", x.whoCut(0, 1), 1);
        DUE.is("row 1 is still missing", x.drop(1), Due.NULL);
        DUE.is("rows", x.count(0), 1);
    }

    private static void itemsAreCutToTheirLane() {
        HungStalls x = new HungStalls();
        for (int lane = 0; lane < 3; lane++) {
            x.row(lane, lane, 2);
        }
        int[] v = {0, 1, -1, 127, 128, 255, 256, 300, -129, 32767, 32768, 65535, 65536, MAX, MIN};
        int[] asByte = {0, 1, -1, 127, -128, -1, 0, 44, 127, -1, 0, -1, 0, -1, 0};
        int[] asShort = {0, 1, -1, 127, 128, 255, 256, 300, -129, 32767, -32768, -1, 0, -1, 0};
        for (int i = 0; i < v.length; i++) {
            DUE.is("byte " + v[i], x.set(0, 1, v[i]), asByte[i]);
            DUE.is("short " + v[i], x.set(1, 1, v[i]), asShort[i]);
            DUE.is("int " + v[i], x.set(2, 1, v[i]), v[i]);
        }
    }

    private static void setRefused() {
        HungStalls x = peeking();
        Due.fillRow(x, 3, 1, 20);
        DUE.is("set -1", x.set(-1, 0, 0), Due.BAD);
        DUE.is("set 8", x.set(8, 0, 0), Due.BAD);
        DUE.is("set of a missing one", x.set(2, 0, 0), Due.NULL);
        DUE.is("status", x.status(), 1);
        DUE.is("NULL ahead of PLACE", x.set(2, -1, 0), Due.NULL);
        DUE.is("place -1", x.set(3, -1, 0), Due.PLACE);
        DUE.is("status", x.status(), 2);
        DUE.is("place 1", x.set(3, 1, 0), Due.PLACE);
        DUE.is("place most", x.set(3, MAX, 0), Due.PLACE);
        DUE.is("place least", x.set(3, MIN, 0), Due.PLACE);
        DUE.is("BAD leaves status", x.set(8, 0, 0), Due.BAD);
        DUE.is("status", x.status(), 2);
        DUE.is("the item stays", x.whoCut(3, 0), 1);
        DUE.is("set", x.set(3, 0, 5), 5);
        DUE.is("the item is another", x.whoCut(3, 0), 0);
        DUE.is("status", x.status(), 0);
    }

    private static void copies() {
        HungStalls x = peeking();
        Due.fillRow(x, 0, 2, 1, 2, 20, 4);
        Due.fillRow(x, 1, 2, 0, 0, 0);
        DUE.is("copy", x.copy(0, 1, 1, 0, 3), 3);
        DUE.is("20 is at 1", x.whoCut(1, 1), 1);
        DUE.is("none at 0", x.whoCut(1, 0), 0);
        DUE.is("none at 2", x.whoCut(1, 2), 0);
        DUE.is("it stays where it was", x.whoCut(0, 2), 1);
        DUE.is("copy back", x.copy(1, 1, 0, 3, 1), 1);
        DUE.is("20 is at 3", x.whoCut(0, 3), 1);
        DUE.is("none of them", x.copy(0, 4, 1, 3, 0), 0);
        DUE.is("none, from 0", x.copy(0, 0, 1, 0, 0), 0);
        DUE.is("nothing came", x.whoCut(1, 0), 0);
        DUE.is("all", x.copy(0, 0, 0, 0, 4), 4);
    }

    private static void copiesOverThemselves() {
        HungStalls x = peeking();
        Due.fillRow(x, 0, 0, 20, 1, 2, 3, 4);
        DUE.is("copy up", x.copy(0, 0, 0, 1, 4), 4);
        DUE.is("20 at 0", x.whoCut(0, 0), 1);
        DUE.is("20 at 1", x.whoCut(0, 1), 1);
        for (int i = 2; i < 5; i++) {
            DUE.is("not 20 at " + i, x.whoCut(0, i), 0);
        }
        Due.fillRow(x, 0, 0, 1, 2, 3, 4, 20);
        DUE.is("copy down", x.copy(0, 1, 0, 0, 4), 4);
        DUE.is("20 at 4", x.whoCut(0, 4), 1);
        DUE.is("20 at 3", x.whoCut(0, 3), 1);
        for (int i = 0; i < 3; i++) {
            DUE.is("not 20 at " + i, x.whoCut(0, i), 0);
        }
    }

    private static void copyRefused() {
        HungStalls x = peeking();
        Due.fillRow(x, 0, 1, 20, 20, 20);
        Due.fillRow(x, 1, 1, 7, 7);
        Due.fillRow(x, 2, 2, 7, 7);
        DUE.is("from -1", x.copy(-1, 0, 1, 0, 1), Due.BAD);
        DUE.is("from 8", x.copy(8, 0, 1, 0, 1), Due.BAD);
        DUE.is("to -1", x.copy(0, 0, -1, 0, 1), Due.BAD);
        DUE.is("to 8", x.copy(0, 0, 8, 0, 1), Due.BAD);
        DUE.is("BAD ahead of NULL", x.copy(3, 0, 8, 0, 1), Due.BAD);
        DUE.is("BAD ahead of NULL", x.copy(8, 0, 3, 0, 1), Due.BAD);
        DUE.is("from a missing one", x.copy(3, 0, 1, 0, 1), Due.NULL);
        DUE.is("to a missing one", x.copy(0, 0, 3, 0, 1), Due.NULL);
        DUE.is("NULL ahead of PLACE", x.copy(0, -1, 3, 0, 1), Due.NULL);
        DUE.is("two lanes", x.copy(0, 0, 2, 0, 1), Due.STORE);
        DUE.is("status", x.status(), 5);
        DUE.is("two lanes, none of them", x.copy(0, 0, 2, 0, 0), Due.STORE);
        DUE.is("STORE ahead of PLACE", x.copy(0, -1, 2, 9, 9), Due.STORE);
        int[][] beyond = {{-1, 0, 1}, {0, -1, 1}, {0, 0, -1}, {3, 0, 1}, {4, 0, 0}, {0, 2, 1}, {0, 3, 0}, {0, 0, 3}, {2, 0, 2},
            {0, 1, 2}, {MAX, 0, 1}, {0, MAX, 1}, {1, 1, MAX}, {MAX, MAX, MAX}, {MIN, MIN, MIN}, {0, 0, MIN}};
        for (int[] b : beyond) {
            DUE.is("place " + b[0] + " " + b[1] + " " + b[2], x.copy(0, b[0], 1, b[1], b[2]), Due.PLACE);
            DUE.is("status", x.status(), 2);
        }
        DUE.is("nothing came", x.whoCut(1, 0) + x.whoCut(1, 1), 0);
    }

    private static void drops() {
        HungStalls x = new HungStalls();
        x.row(5, 0, 17);
        DUE.is("drop -1", x.drop(-1), Due.BAD);
        DUE.is("drop 8", x.drop(8), Due.BAD);
        DUE.is("drop a missing one", x.drop(4), Due.NULL);
        DUE.is("status", x.status(), 1);
        DUE.is("rows", x.count(0), 1);
        DUE.is("drop", x.drop(5), 17);
        DUE.is("status", x.status(), 0);
        DUE.is("rows", x.count(0), 0);
        DUE.is("again", x.drop(5), Due.NULL);
        DUE.is("set", x.set(5, 0, 0), Due.NULL);
        x.row(5, 0, 0);
        DUE.is("drop of none", x.drop(5), 0);
    }

    private static void statusOfLatest() {
        HungStalls x = Due.told("m99,0;l20;t0,4,19;n0,5,3;");
        x.drop(0);
        DUE.is("status", x.status(), 1);
        DUE.is("other calls leave it", x.girl(9, 1), Due.BAD);
        x.rain();
        x.undo();
        x.ask(0, 0);
        x.kind(0);
        x.image(0);
        x.restore(0);
        DUE.is("status", x.status(), 1);
        DUE.is("whoCut of a missing row", x.whoCut(3, 0), Due.NULL);
        x.row(3, 1, 2);
        DUE.is("status", x.status(), 0);
        DUE.is("whoCut", x.whoCut(3, 1), Due.PLACE);
        DUE.is("status", x.status(), 2);
        DUE.is("whoCut", x.whoCut(3, 0), 0);
        DUE.is("status", x.status(), 0);
        DUE.is("reads", x.reads(0, 1, 4, 0, 0), Due.NULL);
        DUE.is("status", x.status(), 1);
        DUE.is("reads", x.reads(0, 1, 3, 0, 1), 0);
        DUE.is("status", x.status(), 0);
        DUE.is("as", x.as(0, 4), Due.KIND);
        DUE.is("status", x.status(), 3);
        DUE.is("as, BAD", x.as(0, 6), Due.BAD);
        DUE.is("status", x.status(), 3);
        DUE.is("as", x.as(0, 1), 0);
        DUE.is("status", x.status(), 0);
    }
}
