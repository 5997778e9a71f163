/** Promises 34 to 38: kinds, asks and their trace, counts. */
public final class AskedTest {
    private static final Due DUE = new Due();
    private static final String ALL_SORTS = "m99,0;l20;t0,4,9;j0,5,9;b0,6,9;n0,7,9;v0,8,9;";

    public static void main(String[] args) {
        kinds();
        asks();
        asksByWeight();
        traces();
        counts();
        DUE.end();
    }

    private static void kinds() {
        HungStalls x = Due.told(ALL_SORTS);
        // which kinds each is, as bits: 0 stall, 1 table, 2 jeweller, 3 butcher, 4 notary, 5 vulture
        int[] is = {0b000011, 0b000111, 0b001011, 0b010001, 0b110001};
        for (int one = 0; one < 5; one++) {
            DUE.is("kind of " + one, x.kind(one), one + 1);
            for (int kind = 0; kind < 6; kind++) {
                boolean fits = (is[one] >> kind & 1) == 1;
                DUE.is(one + " as " + kind, x.as(one, kind), fits ? one : Due.KIND);
                DUE.is("status", x.status(), fits ? 0 : 3);
            }
        }
        DUE.is("kind of 5", x.kind(5), Due.BAD);
        DUE.is("kind of -1", x.kind(-1), Due.BAD);
        DUE.is("as 6", x.as(0, 6), Due.BAD);
        DUE.is("as -1", x.as(0, -1), Due.BAD);
        DUE.is("5 as 0", x.as(5, 0), Due.BAD);
        DUE.is("-1 as 0", x.as(-1, 0), Due.BAD);
    }

    private static void asked(HungStalls x, int one, int what, int answer, int... trace) {
        DUE.is("ask " + what + " of " + one, x.ask(one, what), answer);
        for (int i = 0; i < 8; i++) {
            DUE.is("trace " + i + " of ask " + what + " of " + one, x.trace(i), i < trace.length ? trace[i] : Due.NONE);
        }
    }

    private static void asks() {
        HungStalls x = Due.told(ALL_SORTS);
        asked(x, 0, 0, 9 + 9, 11, 10, 21, 20);
        asked(x, 0, 1, 9, 21, 20);
        asked(x, 1, 0, -(9 + 2 * (1 + 4)), 12, 11, 10, 24, 21, 20);
        asked(x, 1, 1, 2 * (1 + 4), 24, 21, 20);
        asked(x, 2, 0, 9 + 2 + 18 - 1000, 11, 10, 22, 21, 20);
        asked(x, 2, 1, 2 + 18 - 1000, 22, 21, 20);
        asked(x, 3, 0, 9 - 100, 13, 10);
        asked(x, 3, 1, 3 - (9 - 100), 23, 20, 13, 10);
        asked(x, 4, 0, 2 * (9 - 100), 14, 13, 10);
        asked(x, 4, 1, 4 - 2 * (9 - 100), 23, 20, 14, 13, 10);
    }

    private static void asksByWeight() {
        HungStalls x = Due.told(ALL_SORTS);
        for (int one = 0; one < 5; one++) {
            x.buyers(one, 6);
            x.girl(one, 1);
            x.unload(one, 1);
        }
        asked(x, 0, 0, 9 + 7, 11, 10, 21, 20);
        asked(x, 1, 1, 2 * (1 + 7), 24, 21, 20);
        asked(x, 2, 1, 2 + 7 - 1000, 22, 21, 20);
        asked(x, 3, 1, 3 - (9 - 100), 23, 20, 13, 10);
        asked(x, 4, 0, 2 * (9 - 100), 14, 13, 10);
    }

    private static void traces() {
        HungStalls x = Due.told(ALL_SORTS);
        DUE.is("none yet", x.trace(0), Due.NONE);
        x.ask(1, 0);
        DUE.is("trace -1", x.trace(-1), Due.NONE);
        DUE.is("trace 6", x.trace(6), Due.NONE);
        DUE.is("trace 16", x.trace(16), Due.NONE);
        DUE.is("trace most", x.trace(Integer.MAX_VALUE), Due.NONE);
        DUE.is("trace least", x.trace(Integer.MIN_VALUE), Due.NONE);
        DUE.is("ask of 5", x.ask(5, 0), Due.BAD);
        DUE.is("ask of -1", x.ask(-1, 0), Due.BAD);
        DUE.is("ask 2", x.ask(0, 2), Due.BAD);
        DUE.is("ask -1", x.ask(0, -1), Due.BAD);
        DUE.is("a refused one leaves it", x.trace(5), 20);
        Due.read(x, "m1,1;l1;");
        DUE.is("a market leaves it", x.trace(0), 12);
    }

    private static void counts() {
        HungStalls x = Due.told("m33,4;l20;l2;t0,4,9;");
        x.row(3, 0, 0);
        x.row(7, 2, 9);
        x.girl(0, 1);
        x.rain();
        x.feed(1);
        x.feed(2);
        x.feed(3);
        int[] due = {2, 2, 1, 33, 5, 2, 3};
        for (int what = 0; what < 7; what++) {
            DUE.is("count " + what, x.count(what), due[what]);
        }
        DUE.is("count 7", x.count(7), Due.BAD);
        DUE.is("count -1", x.count(-1), Due.BAD);
    }
}
