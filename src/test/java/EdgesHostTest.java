import java.util.Arrays;

/** The boundary cases that promises 37 to 44 name, a test for each sentence. */
public final class EdgesHostTest {
    private static final int MIN = Integer.MIN_VALUE, MAX = Integer.MAX_VALUE;

    public static void main(String[] args) {
        sheetBad();
        sheetSizes();
        sheetMissing();
        put();
        putNarrowed();
        itemBad();
        itemHost();
        itemAsLow();
        shelfBad();
        shelfRow();
        shelfNothing();
        takenBad();
        takenKinds();
        takenRows();
        takenGone();
        actNothing();
        actWraps();
        actCut();
        actParted();
        trace();
        traceLatest();
        many();
        manyCounts();
        Due.promises(37, 44);
        Due.end("EdgesHostTest");
    }

    private static void sheetBad() {
        InchCandle x = new InchCandle();
        Due.sentence(37, "BAD: no such SHEET (0 to 3)");
        Due.range("sheet(v, 0, 1)", v -> x.sheet(v, 0, 1), 0, 3, -1);
        Due.range("sheet(v, -1, 1)", v -> x.sheet(v, -1, 1), 0, 3, -1);
        Due.sentence(37, "BAD: no such sort (-1 to 3)");
        Due.range("sheet(0, v, 1)", v -> x.sheet(0, v, 1), -1, 3, -1);
        Due.sentence(37, "BAD: n above 40, of each sort");
        for (int sort = 0; sort <= 3; sort++) {
            Due.is("sheet(0, sort, 40)", x.sheet(0, sort, 40), 1);
            Due.is("sheet(0, sort, 41)", x.sheet(0, sort, 41), -1);
            Due.is("sheet(0, sort, MAX)", x.sheet(0, sort, MAX), -1);
        }
        Due.sentence(37, "-14: n below 0");
        for (int sort = 0; sort <= 3; sort++) {
            Due.is("sheet(0, sort, 0)", x.sheet(0, sort, 0), 1);
            Due.is("sheet(0, sort, -1)", x.sheet(0, sort, -1), -14);
            Due.is("sheet(0, sort, MIN)", x.sheet(0, sort, MIN), -14);
        }
        Due.sentence(37, "BAD ahead of -14");
        Due.is("sheet(4, 0, -1)", x.sheet(4, 0, -1), -1);
        Due.is("sheet(-1, 0, -1)", x.sheet(-1, 0, -1), -1);
        Due.is("sheet(0, 4, -1)", x.sheet(0, 4, -1), -1);
        Due.is("sheet(0, -2, -1)", x.sheet(0, -2, -1), -1);
    }

    /** A SHEET has so many items of a sort, all of them 0. */
    private static void has(InchCandle x, int sheet, int sort, int n) {
        for (int i = 0; i < n; i++) {
            Due.is("item(" + sheet + ", " + sort + ", " + i + ")", x.item(sheet, sort, i), 0);
        }
        Due.is("item behind the last of " + n, x.item(sheet, sort, n), -12);
    }

    private static void sheetSizes() {
        Due.sentence(37, "a row of n of a sort, all 0: 0, 1 and 40");
        for (int sort = 0; sort <= 3; sort++) {
            for (int n : new int[] {0, 1, 40}) {
                InchCandle x = new InchCandle();
                Due.is("sheet(3, " + sort + ", " + n + ")", x.sheet(3, sort, n), 1);
                has(x, 3, sort, n);
            }
        }
        Due.sentence(37, "all 0, where there was a row ahead");
        InchCandle x = new InchCandle();
        x.sheet(1, 2, 40);
        for (int i = 0; i < 40; i++) {
            x.put(1, i, -1 - i);
        }
        x.sheet(1, 2, 3);
        has(x, 1, 2, 3);
        x.sheet(1, 2, 40);
        has(x, 1, 2, 40);
        x.put(1, 39, 7);
        x.sheet(1, 3, 40);
        has(x, 1, 3, 40);
        Due.sentence(37, "a row that is refused leaves the one ahead");
        x.put(1, 39, 7);
        Due.is("sheet(1, 3, 41)", x.sheet(1, 3, 41), -1);
        Due.is("sheet(1, 3, -1)", x.sheet(1, 3, -1), -14);
        Due.is("sheet(1, 4, 3)", x.sheet(1, 4, 3), -1);
        Due.is("item(1, 3, 39)", x.item(1, 3, 39), 7);
        Due.sentence(37, "the SHEETS beside it stay");
        x.sheet(0, 0, 1);
        x.sheet(2, 0, 1);
        Due.is("item(1, 3, 39)", x.item(1, 3, 39), 7);
        Due.is("item(3, 0, 0)", x.item(3, 0, 0), -11);
    }

    private static void sheetMissing() {
        Due.sentence(37, "missing (sort -1; n counts nothing then)");
        InchCandle x = new InchCandle();
        for (int n : new int[] {MIN, -1, 0, 40, 41, MAX}) {
            x.sheet(2, 0, 5);
            Due.is("sheet(2, -1, " + n + ")", x.sheet(2, -1, n), 1);
            Due.is("item(2, 0, 0)", x.item(2, 0, 0), -11);
            Due.is("sheet(2, -1, " + n + ") of one missing", x.sheet(2, -1, n), 1);
        }
        Due.sentence(37, "BAD ahead of what n counts: no such SHEET");
        Due.is("sheet(4, -1, 0)", x.sheet(4, -1, 0), -1);
        Due.sentence(37, "a row of no items isn't missing");
        x.sheet(2, 0, 0);
        Due.is("item(2, 0, 0)", x.item(2, 0, 0), -12);
    }

    private static void put() {
        InchCandle x = new InchCandle();
        Due.sentence(38, "BAD: no such SHEET");
        x.sheet(0, 0, 3);
        x.sheet(3, 0, 3);
        Due.range("put(v, 0, 1)", v -> x.put(v, 0, 1), 0, 3, -1);
        Due.sentence(38, "-11: it is missing");
        Due.is("put(1, 0, 5)", x.put(1, 0, 5), -11);
        Due.sentence(38, "-12: a place outside, of 3, of 40 and of none");
        Due.range("put(0, v, 1)", v -> x.put(0, v, 1), 0, 2, -12);
        x.sheet(1, 3, 40);
        Due.range("put(1, v, 1)", v -> x.put(1, v, 1), 0, 39, -12);
        x.sheet(1, 3, 0);
        Due.is("put(1, 0, 1)", x.put(1, 0, 1), -12);
        Due.is("put(1, -1, 1)", x.put(1, -1, 1), -12);
        Due.sentence(38, "BAD ahead of -12, -11 ahead of -12");
        Due.is("put(4, -1, 1)", x.put(4, -1, 1), -1);
        Due.is("put(2, -1, 1)", x.put(2, -1, 1), -11);
        Due.is("put(2, 40, 1)", x.put(2, 40, 1), -11);
        Due.sentence(38, "the items beside it stay, the first and the last too");
        x.sheet(0, 2, 3);
        Due.is("put(0, 1, 9)", x.put(0, 1, 9), 1);
        Due.is("item(0, 2, 0)", x.item(0, 2, 0), 0);
        Due.is("item(0, 2, 1)", x.item(0, 2, 1), 9);
        Due.is("item(0, 2, 2)", x.item(0, 2, 2), 0);
    }

    private static void narrowed(int sort, int v, int want) {
        InchCandle x = new InchCandle();
        x.sheet(0, sort, 1);
        Due.is("put(0, 0, " + v + ") of sort " + sort, x.put(0, 0, v), 1);
        Due.is("item(0, " + sort + ", 0) of " + v, x.item(0, sort, 0), want);
    }

    private static void putNarrowed() {
        Due.sentence(38, "narrowed to a byte: -128 to 127 as they are, beyond them they wrap round");
        int[][] bytes = {{-128, -128}, {127, 127}, {-129, 127}, {128, -128}, {255, -1}, {256, 0}, {MIN, 0}, {MAX, -1}, {384, -128}};
        for (int[] one : bytes) {
            narrowed(0, one[0], one[1]);
        }
        Due.sentence(38, "narrowed to a short: -32768 to 32767 as they are, beyond them they wrap round");
        int[][] shorts = {{-32768, -32768}, {32767, 32767}, {-32769, 32767}, {32768, -32768}, {65535, -1}, {65536, 0},
            {MIN, 0}, {MAX, -1}, {128, 128}};
        for (int[] one : shorts) {
            narrowed(1, one[0], one[1]);
        }
        Due.sentence(38, "an int and a long are as they are; of longs the lowest 32 bits");
        for (int v : new int[] {MIN, MAX, -1, 0, 65536, -65537, 32768}) {
            narrowed(2, v, v);
            narrowed(3, v, v);
        }
    }

    private static void itemBad() {
        InchCandle x = new InchCandle();
        for (int sheet = 0; sheet < 4; sheet++) {
            x.sheet(sheet, 0, 3);
        }
        Due.sentence(39, "BAD: no such SHEET");
        Due.range("item(v, 0, 0)", v -> x.item(v, 0, 0), 0, 3, -1);
        Due.sentence(39, "BAD: no such sort (0 to 3; -1 is none here)");
        Due.range("item(0, v, 0)", v -> x.item(0, v, 0), 0, 3, -1);
        Due.sentence(39, "BAD ahead of -11, of -13 and of -12");
        x.sheet(1, -1, 0);
        Due.is("item(1, 4, 0), missing", x.item(1, 4, 0), -1);
        Due.is("item(1, -1, 0), missing", x.item(1, -1, 0), -1);
        Due.is("item(0, 4, 3), outside", x.item(0, 4, 3), -1);
        Due.is("item(4, 1, 3)", x.item(4, 1, 3), -1);
    }

    private static void itemHost() {
        InchCandle x = new InchCandle();
        Due.sentence(39, "-11: it is missing, whatever sort it is taken for");
        for (int sort = 0; sort < 4; sort++) {
            Due.is("item(0, " + sort + ", 0)", x.item(0, sort, 0), -11);
        }
        Due.sentence(39, "-11 ahead of -12");
        Due.is("item(0, 0, -1)", x.item(0, 0, -1), -11);
        Due.is("item(0, 0, 40)", x.item(0, 0, 40), -11);
        Due.sentence(39, "-13: a row of another sort");
        for (int sort = 0; sort < 4; sort++) {
            x.sheet(sort, sort, 3);
            for (int as = 0; as < 4; as++) {
                Due.is("item(" + sort + ", " + as + ", 2)", x.item(sort, as, 2), as == sort ? 0 : -13);
            }
        }
        Due.sentence(39, "-13 ahead of -12");
        for (int sort = 0; sort < 4; sort++) {
            for (int as = 0; as < 4; as++) {
                Due.is("item(" + sort + ", " + as + ", 3)", x.item(sort, as, 3), as == sort ? -12 : -13);
                Due.is("item(" + sort + ", " + as + ", -1)", x.item(sort, as, -1), as == sort ? -12 : -13);
            }
        }
        Due.sentence(39, "-12: a place outside, of 3, of 40 and of none");
        Due.range("item(2, 2, v)", v -> x.item(2, 2, v), 0, 2, -12);
        x.sheet(2, 2, 40);
        Due.range("item(2, 2, v)", v -> x.item(2, 2, v), 0, 39, -12);
        x.sheet(2, 2, 0);
        Due.is("item(2, 2, 0)", x.item(2, 2, 0), -12);
    }

    private static void itemAsLow() {
        Due.sentence(39, "an item may be as low as these, too");
        for (int sort = 0; sort < 4; sort++) {
            for (int v = -15; v <= -1; v++) {
                narrowed(sort, v, v);
            }
        }
    }

    private static void shelfBad() {
        InchCandle x = Due.hall("bidder 0 value 1 purse 1;bidder 0 value 1 purse 1;");
        Due.sentence(40, "BAD: no such SHELF (0 to 3), whatever it would hold");
        Due.range("shelf(v, 0, 0)", v -> x.shelf(v, 0, 0), 0, 3, -1);
        Due.range("shelf(v, 1, 0)", v -> x.shelf(v, 1, 0), 0, 3, -1);
        Due.range("shelf(v, 2, 0)", v -> x.shelf(v, 2, 0), 0, 3, -1);
        Due.sentence(40, "BAD: another what");
        Due.range("shelf(0, v, 0)", v -> x.shelf(0, v, 0), 0, 2, -1);
        Due.sentence(40, "BAD: no such thing, a BIDDER");
        Due.range("shelf(0, 0, v)", v -> x.shelf(0, 0, v), 0, 1, -1);
        Due.is("shelf(0, 0, 0) without BIDDERS", new InchCandle().shelf(0, 0, 0), -1);
        Due.sentence(40, "BAD: no such thing, a SHEET");
        Due.range("shelf(0, 1, v)", v -> x.shelf(0, 1, v), 0, 3, -1);
        Due.sentence(40, "with BAD the SHELF holds what it held");
        x.shelf(0, 0, 1);
        Due.is("shelf(0, 0, 2)", x.shelf(0, 0, 2), -1);
        Due.is("shelf(0, 1, 4)", x.shelf(0, 1, 4), -1);
        Due.is("shelf(0, 3, 0)", x.shelf(0, 3, 0), -1);
        Due.is("taken(0, 0)", x.taken(0, 0), 1);
        Due.sentence(40, "the last of 6 BIDDERS");
        for (int i = 0; i < 4; i++) {
            x.bidder(0, 0, 0, 0);
        }
        Due.is("shelf(3, 0, 5)", x.shelf(3, 0, 5), 1);
        Due.is("taken(3, 0)", x.taken(3, 0), 5);
        Due.is("shelf(3, 0, 6)", x.shelf(3, 0, 6), -1);
    }

    private static void shelfRow() {
        InchCandle x = Due.hall("bidder 0 value 1 purse 1;");
        Due.sentence(40, "the row that SHEET n has now: the SHEET gets another one, or goes missing");
        x.sheet(3, 1, 40);
        Due.is("shelf(0, 1, 3)", x.shelf(0, 1, 3), 1);
        x.sheet(3, 1, 7);
        Due.is("taken(0, 11)", x.taken(0, 11), 40);
        x.sheet(3, -1, 0);
        Due.is("taken(0, 11)", x.taken(0, 11), 40);
        Due.sentence(40, "nothing, if missing: also in place of what it held");
        Due.is("shelf(0, 1, 3)", x.shelf(0, 1, 3), 1);
        Due.is("taken(0, 11)", x.taken(0, 11), -11);
        Due.is("shelf(1, 0, 0)", x.shelf(1, 0, 0), 1);
        Due.is("shelf(1, 1, 3)", x.shelf(1, 1, 3), 1);
        Due.is("taken(1, 0)", x.taken(1, 0), -11);
        Due.sentence(40, "it stays nothing when the SHEET gets a row");
        x.sheet(3, 1, 7);
        Due.is("taken(1, 11)", x.taken(1, 11), -11);
        Due.sentence(40, "a row of no items is a row");
        x.sheet(3, 1, 0);
        x.shelf(1, 1, 3);
        Due.is("taken(1, 11)", x.taken(1, 11), 0);
        Due.sentence(40, "one row may be on several SHELVES");
        x.shelf(2, 1, 3);
        x.shelf(1, 2, 0);
        Due.is("taken(2, 11)", x.taken(2, 11), 0);
    }

    private static void shelfNothing() {
        InchCandle x = Due.hall("bidder 0 value 1 purse 1;");
        Due.sentence(40, "nothing (2): whatever n is, in place of whatever was there");
        x.sheet(0, 0, 3);
        for (int n : new int[] {MIN, -1, 0, 1, 6, MAX}) {
            x.shelf(0, 0, 0);
            Due.is("shelf(0, 2, " + n + ")", x.shelf(0, 2, n), 1);
            Due.is("taken(0, 0)", x.taken(0, 0), -11);
            x.shelf(0, 1, 0);
            Due.is("shelf(0, 2, " + n + ")", x.shelf(0, 2, n), 1);
            Due.is("taken(0, 10)", x.taken(0, 10), -11);
        }
        Due.sentence(40, "a BIDDER in place of a row, a row in place of a BIDDER");
        x.shelf(0, 1, 0);
        x.shelf(0, 0, 0);
        Due.is("taken(0, 0)", x.taken(0, 0), 0);
        Due.is("taken(0, 10)", x.taken(0, 10), -13);
        x.shelf(0, 1, 0);
        Due.is("taken(0, 0)", x.taken(0, 0), -13);
        Due.is("taken(0, 10)", x.taken(0, 10), 3);
    }

    private static void takenBad() {
        InchCandle x = Due.hall("bidder 0 value 1 purse 1;");
        x.shelf(0, 0, 0);
        Due.sentence(41, "BAD: no such SHELF");
        Due.range("taken(v, 0)", v -> x.taken(v, 0), 0, 3, -1);
        Due.range("taken(v, 10)", v -> x.taken(v, 10), 0, 3, -1);
        Due.sentence(41, "BAD: no such as (0 to 5, 10 to 13)");
        Due.range("taken(0, v), a KIND", v -> x.taken(0, v), 0, 5, -1);
        Due.range("taken(0, v), a sort", v -> x.taken(0, v), 10, 13, -1);
        for (int as = 6; as <= 9; as++) {
            Due.is("taken(0, " + as + ")", x.taken(0, as), -1);
        }
        Due.sentence(41, "BAD ahead of -11");
        Due.is("taken(1, 6)", x.taken(1, 6), -1);
        Due.is("taken(1, 14)", x.taken(1, 14), -1);
        Due.is("taken(4, 0)", x.taken(4, 0), -1);
        Due.sentence(41, "-11: nothing, taken for whatever");
        for (int as : new int[] {0, 1, 2, 3, 4, 5, 10, 11, 12, 13}) {
            Due.is("taken(1, " + as + ")", x.taken(1, as), -11);
        }
    }

    private static void takenKinds() {
        Due.sentence(41, "a thing of KIND as, or one under it: its number; -13 else");
        // by what it is: what it can be taken for
        String[] under = {"0", "0 1", "0 2", "0 1 3", "0 2 4", "0 1 5"};
        InchCandle x = new InchCandle();
        for (int i = 0; i < 6; i++) {
            x.bidder(i, 0, 0, 0);
        }
        for (int kind = 0; kind < 6; kind++) {
            x.shelf(0, 0, kind);
            for (int as = 0; as < 6; as++) {
                boolean is = Arrays.asList(under[kind].split(" ")).contains("" + as);
                Due.is("KIND " + kind + " taken for " + as, x.taken(0, as), is ? kind : -13);
            }
        }
        Due.sentence(41, "of the KIND that it is now");
        x.shelf(0, 0, 3);
        Due.is("taken(0, 1)", x.taken(0, 1), 3);
        x.mind(3, 4, 0);
        Due.is("taken(0, 1)", x.taken(0, 1), -13);
        Due.is("taken(0, 4)", x.taken(0, 4), 3);
        Due.is("taken(0, 3)", x.taken(0, 3), -13);
        Due.sentence(41, "-13: a thing taken for a row");
        for (int as = 10; as <= 13; as++) {
            Due.is("taken(0, " + as + ")", x.taken(0, as), -13);
        }
    }

    private static void takenRows() {
        InchCandle x = new InchCandle();
        Due.sentence(41, "for a row of sort as - 10: how many items, 0 to 40; -13 else");
        for (int sort = 0; sort < 4; sort++) {
            for (int n : new int[] {0, 1, 40}) {
                x.sheet(0, sort, n);
                x.shelf(1, 1, 0);
                for (int as = 10; as <= 13; as++) {
                    Due.is("sort " + sort + " taken for " + as, x.taken(1, as), as - 10 == sort ? n : -13);
                }
            }
        }
        Due.sentence(41, "-13: a row taken for a thing");
        for (int as = 0; as < 6; as++) {
            Due.is("taken(1, " + as + ")", x.taken(1, as), -13);
        }
        Due.sentence(41, "BAD ahead of -13");
        Due.is("taken(1, 6)", x.taken(1, 6), -1);
        Due.is("taken(1, 14)", x.taken(1, 14), -1);
    }

    private static void takenGone() {
        Due.sentence(41, "nothing, while there is none such: hall() or again() took it away");
        InchCandle x = Due.hall("late 0 value 1 purse 1;");
        x.keep();
        x.bidder(2, 0, 0, 0);
        x.shelf(0, 0, 1);
        x.shelf(1, 0, 0);
        Due.is("taken(0, 2)", x.taken(0, 2), 1);
        x.again();
        Due.is("taken(0, 2)", x.taken(0, 2), -11);
        Due.is("taken(0, 10)", x.taken(0, 10), -11);
        Due.is("taken(1, 1)", x.taken(1, 1), 0);
        x.hall();
        Due.is("taken(1, 1)", x.taken(1, 1), -11);
        Due.sentence(41, "by its number: another one of that number is held again");
        x.bidder(5, 0, 0, 0);
        Due.is("taken(1, 5)", x.taken(1, 5), 0);
        Due.is("taken(0, 0)", x.taken(0, 0), -11);
        x.bidder(4, 0, 0, 0);
        Due.is("taken(0, 4)", x.taken(0, 4), 1);
    }

    private static void none(InchCandle x, int shelf, int act) {
        x.shelf(0, 0, 0);
        Due.is("act(0, 0, 7)", x.act(0, 0, 7), 7);
        Due.is("many(5)", x.many(5), 1);
        Due.is("act(" + shelf + ", " + act + ", 7)", x.act(shelf, act, 7), 0);
        Due.is("no TRACE then, many(5)", x.many(5), 0);
        Due.is("no TRACE then, trace(0)", x.trace(0), -3);
    }

    private static void actNothing() {
        InchCandle x = Due.hall("bidder 0 value 1 purse 1;bidder 0 value 1 purse 1;");
        Due.sentence(42, "0, and no TRACE then: no such SHELF");
        for (int shelf : new int[] {-1, 4, MIN, MAX}) {
            none(x, shelf, 0);
        }
        Due.sentence(42, "0, and no TRACE then: no such act");
        for (int act : new int[] {-1, 4, MIN, MAX}) {
            none(x, 0, act);
        }
        Due.sentence(42, "0, and no TRACE then: nothing");
        none(x, 1, 0);
        Due.sentence(42, "0, and no TRACE then: nothing, while there is none such");
        x.keep();
        x.bidder(0, 0, 0, 0);
        x.shelf(1, 0, 2);
        Due.is("act(1, 0, 7)", x.act(1, 0, 7), 9);
        x.again();
        none(x, 1, 0);
        Due.sentence(42, "0, and no TRACE then: a row");
        x.sheet(0, 2, 3);
        x.shelf(2, 1, 0);
        none(x, 2, 0);
        Due.sentence(42, "an answer of 0 has a TRACE, though");
        Due.is("act(0, 0, 0)", x.act(0, 0, 0), 0);
        Due.is("many(5)", x.many(5), 1);
    }

    /** What a BIDDER of a KIND, with that number and A, answers. */
    private static void act(int kind, int n, int a, int act, int v, int want) {
        InchCandle x = new InchCandle();
        for (int i = 0; i < n; i++) {
            x.bidder(0, 0, 0, 0);
        }
        x.bidder(kind, a, 0, 0);
        x.shelf(3, 0, n);
        Due.is("act(3, " + act + ", " + v + ") of KIND " + kind + ", n " + n + ", A " + a, x.act(3, act, v), want);
    }

    private static void actWraps() {
        Due.sentence(42, "ints that wrap: x + n");
        act(0, 0, 0, 0, MAX, MAX);
        act(0, 1, 0, 0, MAX, MIN);
        act(0, 5, 0, 0, MAX, MIN + 4);
        act(0, 5, 0, 0, MIN, MIN + 5);
        Due.sentence(42, "ints that wrap: calls(x) * 2");
        act(0, 0, 0, 1, 1 << 30, MIN);
        act(0, 0, 0, 1, MIN, 0);
        act(0, 0, 0, 1, MAX, -2);
        Due.sentence(42, "ints that wrap: super.hears(x) - a");
        act(1, 0, 1, 1, 1 << 30, MAX);
        act(1, 0, 9, 1, MIN, -9);
        Due.sentence(42, "ints that wrap: super.calls(x) * 3");
        act(2, 0, 0, 0, MAX, MAX - 2);
        act(2, 0, 0, 0, MIN, MIN);
        act(2, 1, 0, 0, MAX, MIN);
        Due.sentence(42, "ints that wrap: 0 - super.calls(x)");
        act(4, 0, 0, 0, MIN, MIN);
        act(4, 0, 0, 0, MAX, -(MAX - 2));
        Due.sentence(42, "ints that wrap: super.shares(x + 2) ^ 1, super.calls(x) - n");
        act(3, 0, 1, 2, MAX, MIN);
        act(3, 0, 1, 2, MAX - 1, MIN + 1);
        act(3, 5, 0, 0, MIN, MIN);
        act(3, 5, 0, 0, MAX, MAX);
        Due.sentence(42, "ints that wrap: super.tells(x) * 2");
        act(5, 0, 0, 3, 1 << 29, MIN);
        act(5, 0, 0, 3, 1 << 30, 0);
        Due.sentence(42, "ints that wrap: MIN by -1");
        act(0, 1, 0, 2, MIN, MIN);
        act(0, 2, 1, 2, MIN, MIN);
        act(0, 1, 0, 2, MAX, -MAX);
    }

    private static void actCut() {
        Due.sentence(42, "x by (a - n), the rest away: towards 0");
        act(0, 0, 2, 2, 7, 3);
        act(0, 0, 2, 2, -7, -3);
        act(0, 2, 0, 2, 7, -3);
        act(0, 2, 0, 2, -7, 3);
        act(0, 0, 9, 2, 8, 0);
        act(0, 0, 9, 2, -8, 0);
        act(0, 0, 9, 2, 9, 1);
        act(0, 0, 9, 2, -9, -1);
        act(0, 5, 0, 2, 4, 0);
        act(0, 5, 0, 2, 5, -1);
    }

    private static void parted(int kind, int n, int act, String bodies) {
        InchCandle x = new InchCandle();
        for (int i = 0; i < n; i++) {
            x.bidder(0, 0, 0, 0);
        }
        x.bidder(kind, n, 0, 0);
        x.shelf(3, 0, n);
        Due.is("act(3, " + act + ", 7) of KIND " + kind, x.act(3, act, 7), -15);
        StringBuilder trace = new StringBuilder();
        for (int i = 0; i < x.many(5); i++) {
            trace.append(i == 0 ? "" : " ").append(x.trace(i));
        }
        Due.same("THE TRACE of act " + act + " of KIND " + kind, trace.toString(), bodies);
    }

    private static void actParted() {
        Due.sentence(42, "-15 if these are the same; THE TRACE is that act()'s, too");
        for (int n = 0; n <= 5; n++) {
            parted(0, n, 2, "12");
            parted(1, n, 2, "12");
            parted(2, n, 2, "12");
            parted(3, n, 2, "50 12");
            parted(4, n, 2, "12");
            parted(5, n, 2, "61 12");
        }
        Due.sentence(42, "that is all that act() answers then: no body behind it begins");
        parted(2, 3, 3, "31 13 11 30 10 12");
        parted(4, 3, 3, "31 13 41 11 40 30 10 40 30 10 12");
        Due.sentence(42, "of the act() behind it all is as it must be");
        InchCandle x = Due.hall("leaper 0 value 1 purse 1;leaper 0 value 1 purse 1;");
        x.shelf(0, 0, 0);
        x.shelf(1, 0, 1);
        Due.is("act(0, 3, 7)", x.act(0, 3, 7), -15);
        Due.is("act(1, 3, 7)", x.act(1, 3, 7), 48 - 1);
        Due.is("many(5)", x.many(5), 6);
        Due.is("trace(5)", x.trace(5), 12);
        Due.sentence(42, "1 more and 1 less are not the same");
        act(0, 3, 4, 2, 7, 7);
        act(0, 3, 2, 2, 7, -7);
        Due.sentence(42, "-15 may be an answer that nothing was parted for");
        act(0, 0, 1, 2, -15, -15);
        act(0, 0, 0, 0, -15, -15);
        Due.sentence(42, "the ACTS that part nothing answer with them the same");
        act(0, 3, 3, 0, 7, 10);
        act(1, 3, 3, 1, 7, 17);
        act(0, 3, 3, 3, 7, 20 ^ 3);
    }

    private static void trace() {
        InchCandle x = Due.hall("broker 1 value 1 purse 1;");
        Due.sentence(43, "NONE: there was no act()");
        for (int i : new int[] {0, -1, 1, MIN, MAX}) {
            Due.is("trace(" + i + ")", x.trace(i), -3);
        }
        Due.sentence(43, "THE TRACE's i-th body, from 0 on; NONE: below and behind it");
        x.shelf(0, 0, 0);
        x.act(0, 3, 5);
        int[] bodies = {31, 13, 41, 11, 40, 30, 10, 40, 30, 10, 12};
        for (int i = 0; i < bodies.length; i++) {
            Due.is("trace(" + i + ")", x.trace(i), bodies[i]);
        }
        Due.range("trace(v)", x::trace, 0, bodies.length - 1, -3);
        Due.is("trace(29)", x.trace(29), -3);
        Due.is("trace(30)", x.trace(30), -3);
        Due.is("many(5)", x.many(5), bodies.length);
    }

    private static void traceLatest() {
        InchCandle x = Due.hall("broker 1 value 1 purse 1;");
        x.shelf(0, 0, 0);
        x.act(0, 3, 5);
        Due.sentence(43, "of the latest act(): a shorter one leaves nothing of it");
        x.act(0, 0, 5);
        Due.is("trace(0)", x.trace(0), 40);
        Due.is("trace(2)", x.trace(2), 10);
        Due.is("trace(3)", x.trace(3), -3);
        Due.sentence(43, "it stays when the SHELF and the BIDDER change, and without them");
        x.shelf(0, 2, 0);
        x.mind(0, 0, 0);
        x.hall();
        Due.is("trace(0)", x.trace(0), 40);
        Due.is("many(5)", x.many(5), 3);
    }

    private static void many() {
        Due.sentence(44, "BAD: another what");
        Due.range("many(v)", v -> new InchCandle().many(v), 0, 5, -1);
        Due.sentence(44, "none of each at first");
        for (int what = 0; what < 6; what++) {
            Due.is("many(" + what + ")", new InchCandle().many(what), 0);
        }
    }

    private static void manyCounts() {
        InchCandle x = new InchCandle();
        for (int i = 0; i < 7; i++) {
            x.lot(60, 99);
            x.bidder(0, 0, 999, 9999);
        }
        Due.sentence(44, "LOTS, 5 at most");
        Due.is("many(0)", x.many(0), 5);
        Due.sentence(44, "BIDDERS, 6 at most");
        Due.is("many(1)", x.many(1), 6);
        Due.sentence(44, "ROWS, 20 at most");
        x.prove(0);
        Due.is("many(3)", x.many(3), 20);
        Due.sentence(44, "LOTS that are sold: none to all, to somebody or to nobody; THE LOT is not");
        for (int lot = 0; lot < 5; lot++) {
            Due.is("many(2)", x.many(2), lot);
            x.light(lot);
            x.ticks(lot % 2);
            Due.is("many(2)", x.many(2), lot);
            x.snuff();
        }
        Due.is("many(2)", x.many(2), 5);
        x.back(2);
        Due.is("many(2)", x.many(2), 4);
        Due.sentence(44, "bytes of THE TAPE, 200 at most");
        for (int i = 0; i < 26; i++) {
            x.feed(0, 8);
        }
        Due.is("many(4)", x.many(4), 200);
        Due.sentence(44, "bodies of THE TRACE: those of the one with the most are fewer than 30");
        x.mind(5, 4, 0);
        x.shelf(0, 0, 5);
        x.act(0, 3, 0);
        Due.is("many(5)", x.many(5), 11);
    }
}
