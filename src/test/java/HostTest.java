/** Promises 37 to 44: SHEETS, SHELVES, ACTS and their TRACE, and how many there are. */
public final class HostTest {
    public static void main(String[] args) {
        sheets();
        items();
        shelves();
        takenThings();
        acts();
        parted();
        traces();
        counts();
        Due.end("HostTest");
    }

    private static void sheets() {
        InchCandle x = new InchCandle();
        Due.is("sheet(-1, 0, 1)", x.sheet(-1, 0, 1), -1);
        Due.is("sheet(4, 0, 1)", x.sheet(4, 0, 1), -1);
        Due.is("sheet(0, 4, 1)", x.sheet(0, 4, 1), -1);
        Due.is("sheet(0, -2, 1)", x.sheet(0, -2, 1), -1);
        Due.is("sheet(0, 0, 41)", x.sheet(0, 0, 41), -1);
        Due.is("sheet(0, 0, -1)", x.sheet(0, 0, -1), -14);
        Due.is("sheet(4, 0, -1), BAD ahead of -14", x.sheet(4, 0, -1), -1);
        Due.is("sheet(0, 4, -1), BAD ahead of -14", x.sheet(0, 4, -1), -1);
        Due.is("item(0, 0, 0)", x.item(0, 0, 0), -11);
        Due.is("sheet(0, 2, 40)", x.sheet(0, 2, 40), 1);
        for (int i = 0; i < 40; i++) {
            Due.is("all 0", x.item(0, 2, i), 0);
            x.put(0, i, i + 1);
        }
        Due.is("item(0, 2, 40)", x.item(0, 2, 40), -12);
        Due.is("sheet(0, 0, -1)", x.sheet(0, 0, -1), -14);
        Due.is("the row stays", x.item(0, 2, 39), 40);
        Due.is("sheet(0, 2, 3)", x.sheet(0, 2, 3), 1);
        Due.is("all 0", x.item(0, 2, 0), 0);
        Due.is("all 0", x.item(0, 2, 2), 0);
        Due.is("item(0, 2, 3)", x.item(0, 2, 3), -12);
        Due.is("sheet(0, 2, 40)", x.sheet(0, 2, 40), 1);
        Due.is("all 0", x.item(0, 2, 39), 0);
        Due.is("sheet(0, 1, 0)", x.sheet(0, 1, 0), 1);
        Due.is("item(0, 1, 0)", x.item(0, 1, 0), -12);
        Due.is("sheet(0, -1, 99)", x.sheet(0, -1, 99), 1);
        Due.is("item(0, 1, 0)", x.item(0, 1, 0), -11);
        Due.is("sheet(0, -1, -99)", x.sheet(0, -1, -99), 1);
        Due.is("sheet(3, 3, 1)", x.sheet(3, 3, 1), 1);
    }

    private static void items() {
        InchCandle x = new InchCandle();
        Due.is("put(0, 0, 5)", x.put(0, 0, 5), -11);
        Due.is("put(4, 0, 5)", x.put(4, 0, 5), -1);
        Due.is("put(-1, 0, 5)", x.put(-1, 0, 5), -1);
        int[] values = {0, -1, 127, 128, -129, 255, 32767, 32768, -32769, 65536, Integer.MAX_VALUE, Integer.MIN_VALUE};
        for (int sort = 0; sort < 4; sort++) {
            x.sheet(sort, sort, 5);
            for (int v : values) {
                int want = sort == 0 ? (byte) v : sort == 1 ? (short) v : v;
                Due.is("put(" + sort + ", 4, " + v + ")", x.put(sort, 4, v), 1);
                Due.is("item of " + v, x.item(sort, sort, 4), want);
                Due.is("the one ahead", x.item(sort, sort, 3), 0);
            }
            Due.is("put(i 5)", x.put(sort, 5, 1), -12);
            Due.is("put(i -1)", x.put(sort, -1, 1), -12);
            Due.is("item(i 5)", x.item(sort, sort, 5), -12);
            Due.is("item(i -1)", x.item(sort, sort, -1), -12);
            for (int other = 0; other < 4; other++) {
                if (other != sort) {
                    Due.is("another sort", x.item(sort, other, 4), -13);
                    Due.is("-13 ahead of -12", x.item(sort, other, 5), -13);
                }
            }
        }
        Due.is("item(4, 0, 0)", x.item(4, 0, 0), -1);
        Due.is("item(-1, 0, 0)", x.item(-1, 0, 0), -1);
        Due.is("item(0, 4, 0)", x.item(0, 4, 0), -1);
        Due.is("item(0, -1, 0)", x.item(0, -1, 0), -1);
        x.sheet(0, -1, 0);
        Due.is("BAD ahead of -11", x.item(0, 4, 0), -1);
        Due.is("-11 ahead of -13", x.item(0, 1, 0), -11);
        Due.is("-11 ahead of -12", x.put(0, 9, 0), -11);
    }

    private static void shelves() {
        InchCandle x = Due.hall("bidder 0 value 1 purse 1;bidder 0 value 1 purse 1;");
        Due.is("shelf(-1, 2, 0)", x.shelf(-1, 2, 0), -1);
        Due.is("shelf(4, 2, 0)", x.shelf(4, 2, 0), -1);
        Due.is("shelf(0, 3, 0)", x.shelf(0, 3, 0), -1);
        Due.is("shelf(0, -1, 0)", x.shelf(0, -1, 0), -1);
        Due.is("shelf(0, 0, 2)", x.shelf(0, 0, 2), -1);
        Due.is("shelf(0, 0, -1)", x.shelf(0, 0, -1), -1);
        Due.is("shelf(0, 1, 4)", x.shelf(0, 1, 4), -1);
        Due.is("shelf(0, 1, -1)", x.shelf(0, 1, -1), -1);
        Due.is("taken(0, 0)", x.taken(0, 0), -11);
        Due.is("shelf(0, 0, 1)", x.shelf(0, 0, 1), 1);
        Due.is("taken(0, 0)", x.taken(0, 0), 1);
        Due.is("shelf(0, 0, 2)", x.shelf(0, 0, 2), -1);
        Due.is("it stays with BAD", x.taken(0, 0), 1);
        Due.is("shelf(0, 2, 99)", x.shelf(0, 2, 99), 1);
        Due.is("nothing", x.taken(0, 0), -11);
        x.sheet(2, 3, 7);
        Due.is("shelf(3, 1, 2)", x.shelf(3, 1, 2), 1);
        Due.is("taken(3, 13)", x.taken(3, 13), 7);
        x.sheet(2, 0, 9);
        Due.is("the row that the SHEET had", x.taken(3, 13), 7);
        Due.is("shelf(3, 1, 2)", x.shelf(3, 1, 2), 1);
        Due.is("the row that it has now", x.taken(3, 10), 9);
        x.sheet(2, -1, 0);
        Due.is("the row that the SHEET had", x.taken(3, 10), 9);
        Due.is("shelf(3, 1, 2) of one missing", x.shelf(3, 1, 2), 1);
        Due.is("nothing", x.taken(3, 10), -11);
        x.shelf(3, 0, 1);
        Due.is("shelf(3, 1, 2) over a BIDDER", x.shelf(3, 1, 2), 1);
        Due.is("nothing", x.taken(3, 0), -11);
        x.sheet(2, 0, 0);
        x.shelf(3, 1, 2);
        Due.is("a row of 0", x.taken(3, 10), 0);
        x.shelf(3, 0, 0);
        Due.is("a BIDDER in its place", x.taken(3, 0), 0);
        Due.is("no row", x.taken(3, 10), -13);
        goneAndBack(x);
    }

    private static void goneAndBack(InchCandle x) {
        x.shelf(1, 0, 1);
        Due.feed(x, "late 4 value 1 purse 1;");
        x.hall();
        Due.is("none such", x.taken(1, 0), -11);
        Due.is("none such, taken for a row", x.taken(1, 10), -11);
        Due.is("act(1, 0, 5)", x.act(1, 0, 5), 0);
        Due.is("there still", x.taken(3, 1), 0);
        x.bidder(2, 0, 0, 0);
        Due.is("such a one again", x.taken(1, 2), 1);
        Due.is("act(1, 0, 5)", x.act(1, 0, 5), 18);
    }

    private static void takenThings() {
        InchCandle x = Due.hall("bidder 0 value 1 purse 1;late 0 value 1 purse 1;leaper 0 value 1 purse 1;"
            + "sniper 0 value 1 purse 1;broker 0 value 1 purse 1;blind 0 value 1 purse 1;");
        String[] under = {"0", "01", "02", "013", "024", "015"};
        for (int kind = 0; kind < 6; kind++) {
            x.shelf(kind % 4, 0, kind);
            for (int as = 0; as < 6; as++) {
                boolean is = under[kind].indexOf((char) ('0' + as)) >= 0;
                Due.is("kind " + kind + " taken for " + as, x.taken(kind % 4, as), is ? kind : -13);
            }
            for (int as = 10; as < 14; as++) {
                Due.is("taken for a row", x.taken(kind % 4, as), -13);
            }
        }
        for (int as : new int[] {-1, 6, 9, 14, Integer.MAX_VALUE, Integer.MIN_VALUE}) {
            Due.is("taken(0, " + as + ")", x.taken(0, as), -1);
        }
        Due.is("taken(4, 0)", x.taken(4, 0), -1);
        Due.is("taken(-1, 0)", x.taken(-1, 0), -1);
        x.shelf(0, 2, 0);
        Due.is("BAD ahead of -11", x.taken(0, 6), -1);
        for (int sort = 0; sort < 4; sort++) {
            x.sheet(1, sort, 20 + sort);
            x.shelf(2, 1, 1);
            for (int as = 10; as < 14; as++) {
                Due.is("sort " + sort + " taken for " + as, x.taken(2, as), as - 10 == sort ? 20 + sort : -13);
            }
            for (int as = 0; as < 6; as++) {
                Due.is("a row taken for a thing", x.taken(2, as), -13);
            }
        }
    }

    /** All bidders have A 5, so that a - n is 5 to 0. */
    private static InchCandle things() {
        return Due.hall("bidder 5 value 1 purse 1;late 5 value 1 purse 1;leaper 5 value 1 purse 1;"
            + "sniper 5 value 1 purse 1;broker 5 value 1 purse 1;blind 5 value 1 purse 1;");
    }

    private static void act(InchCandle x, int n, int act, int v, int want, int... bodies) {
        x.shelf(0, 0, n);
        String call = "act " + act + " of " + n + " with " + v;
        Due.is(call, x.act(0, act, v), want);
        Due.is("bodies of " + call, x.many(5), bodies.length);
        for (int i = 0; i < bodies.length; i++) {
            Due.is("body " + i + " of " + call, x.trace(i), bodies[i]);
        }
        Due.is("no more of " + call, x.trace(bodies.length), -3);
    }

    private static void acts() {
        InchCandle x = things();
        act(x, 0, 0, 7, 7, 10);
        act(x, 0, 1, 7, 14, 11, 10);
        act(x, 0, 2, -7, -1, 12);
        act(x, 0, 3, 7, 14 ^ 5, 13, 11, 10);
        act(x, 1, 0, 7, 8, 10);
        act(x, 1, 1, 7, 11, 20, 11, 10);
        act(x, 1, 2, 7, 1, 12);
        act(x, 1, 3, 7, 11 ^ 5, 13, 20, 11, 10);
        act(x, 2, 0, 7, 27, 30, 10);
        act(x, 2, 1, 7, 54, 11, 30, 10);
        act(x, 2, 2, 7, 2, 12);
        act(x, 2, 3, 7, (54 ^ 5) + 0, 31, 13, 11, 30, 10, 12);
        act(x, 3, 0, 7, 7, 51, 10);
        act(x, 3, 1, 7, 9, 20, 11, 51, 10);
        act(x, 3, 2, 7, 4 ^ 1, 50, 12);
        act(x, 3, 3, 7, 9 ^ 5, 13, 20, 11, 51, 10);
        act(x, 4, 0, 7, -33, 40, 30, 10);
        act(x, 4, 1, 7, -66 - 24, 41, 11, 40, 30, 10, 40, 30, 10);
        act(x, 4, 2, 7, 7, 12);
        act(x, 4, 3, 7, (-90 ^ 5) + 4, 31, 13, 41, 11, 40, 30, 10, 40, 30, 10, 12);
        act(x, 5, 0, 7, 12, 10);
        act(x, 5, 1, 7, 19, 20, 11, 10);
        x.mind(5, 5, 2);
        act(x, 5, 2, 7, -2 + 7, 61, 12, 10);
        act(x, 5, 3, 7, (22 ^ 2) * 2, 60, 13, 20, 11, 10);
        x.mind(4, 5, 9);
        act(x, 4, 2, Integer.MIN_VALUE, Integer.MIN_VALUE / 5 + 13, 61, 12, 10);
        wrapping(x);
    }

    private static void wrapping(InchCandle x) {
        int most = Integer.MAX_VALUE;
        act(x, 1, 0, most, Integer.MIN_VALUE, 10);
        act(x, 1, 1, most, -5, 20, 11, 10);
        act(x, 3, 0, most, most, 51, 10);
        x.mind(0, 0, 1);
        act(x, 0, 2, Integer.MIN_VALUE, Integer.MIN_VALUE, 12);
        x.mind(1, 0, 0);
        act(x, 1, 2, Integer.MIN_VALUE, Integer.MIN_VALUE, 12);
        x.mind(1, 3, 0);
        act(x, 1, 2, most, Integer.MAX_VALUE ^ 1, 50, 12);
    }

    private static void parted() {
        InchCandle x = things();
        act(x, 5, 2, 7, -15, 61, 12);
        x.mind(5, 3, 5);
        act(x, 5, 2, 7, -15, 50, 12);
        x.mind(5, 2, 5);
        act(x, 5, 3, 7, -15, 31, 13, 11, 30, 10, 12);
        act(x, 5, 0, 7, 36, 30, 10);
        x.mind(5, 4, 5);
        act(x, 5, 3, 7, -15, 31, 13, 41, 11, 40, 30, 10, 40, 30, 10, 12);
        x.mind(5, 1, 5);
        act(x, 5, 2, 0, -15, 12);
        x.mind(0, 0, 0);
        act(x, 0, 2, 0, -15, 12);
        act(x, 0, 0, -15, -15, 10);
    }

    private static void traces() {
        InchCandle x = things();
        act(x, 4, 1, 7, -90, 41, 11, 40, 30, 10, 40, 30, 10);
        Due.is("trace(-1)", x.trace(-1), -3);
        Due.is("trace(30)", x.trace(30), -3);
        Due.is("act(4, 0, 1)", x.act(4, 0, 1), 0);
        Due.is("no TRACE then", x.many(5), 0);
        Due.is("trace(0)", x.trace(0), -3);
        noTraceAfter(x, 0, 4);
        noTraceAfter(x, 0, -1);
        noTraceAfter(x, -1, 0);
        noTraceAfter(x, 1, 0);
        x.sheet(0, 2, 3);
        x.shelf(2, 1, 0);
        noTraceAfter(x, 2, 0);
        act(x, 0, 0, 1, 1, 10);
        x.taken(0, 0);
        x.keep();
        Due.is("the TRACE of the latest act() stays", x.many(5), 1);
    }

    private static void noTraceAfter(InchCandle x, int shelf, int act) {
        act(x, 1, 0, 7, 8, 10);
        Due.is("act(" + shelf + ", " + act + ", 9)", x.act(shelf, act, 9), 0);
        Due.is("many(5)", x.many(5), 0);
        Due.is("trace(0)", x.trace(0), -3);
    }

    private static void counts() {
        InchCandle x = Due.hall("lot 5 worth 5;lot 5 worth 99;bidder 0 value 99 purse 99;");
        x.light(0);
        x.snuff();
        x.prove(1);
        Due.feed(x, "abc");
        x.shelf(0, 0, 0);
        x.act(0, 3, 1);
        int[] want = {2, 1, 1, 1, 3, 3};
        for (int what = 0; what < 6; what++) {
            Due.is("many(" + what + ")", x.many(what), want[what]);
        }
        Due.is("many(6)", x.many(6), -1);
        Due.is("many(-1)", x.many(-1), -1);
    }
}
