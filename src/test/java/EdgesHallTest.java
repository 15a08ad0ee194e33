/** The boundary cases that promises 1 and 4 to 13 name, a test for each sentence. */
public final class EdgesHallTest {
    private static final int MIN = Integer.MIN_VALUE, MAX = Integer.MAX_VALUE;

    public static void main(String[] args) {
        newObject();
        newObjectHost();
        usedFor512Calls();
        lot();
        lotFull();
        lotOf();
        lotOfPrice();
        trim();
        trimState();
        draught();
        step();
        bidder();
        bidderFull();
        bidderOf();
        mind();
        purse();
        limit();
        limitCut();
        Due.promises(1, 1);
        Due.promises(4, 13);
        Due.end("EdgesHallTest");
    }

    private static void newObject() {
        Due.sentence(1, "no LOTS");
        InchCandle x = new InchCandle();
        Due.is("many(0)", x.many(0), 0);
        Due.is("lotOf(0, 0)", x.lotOf(0, 0), -1);
        Due.is("owed(0)", x.owed(0), 0);
        Due.is("owed(2)", x.owed(2), 0);
        Due.sentence(1, "no BIDDERS");
        Due.is("many(1)", x.many(1), 0);
        Due.is("bidderOf(0, 0)", x.bidderOf(0, 0), -1);
        Due.is("owed(1)", x.owed(1), 0);
        Due.sentence(1, "no DRAUGHTS: 0 at first");
        for (int place = 0; place < 12; place++) {
            Due.is("draught(" + place + ", 3)", x.draught(place, 3), 0);
        }
        Due.sentence(1, "nothing is kept");
        Due.is("again()", x.again(), -3);
        Due.sentence(1, "STEP is 5 at first");
        Due.is("step(5)", x.step(5), 5);
        Due.sentence(1, "z is 1 at first");
        Due.is("seed(1)", x.seed(1), 1);
        Due.sentence(1, "THE LOT is none at first");
        Due.is("now(0)", x.now(0), -9);
        Due.is("snuff()", x.snuff(), -4);
    }

    private static void newObjectHost() {
        InchCandle x = new InchCandle();
        Due.sentence(1, "THE TAPE, ROWS and THE TRACE have nothing at first");
        Due.is("many(4)", x.many(4), 0);
        Due.is("many(3)", x.many(3), 0);
        Due.is("row(0, 0)", x.row(0, 0), -9);
        Due.is("many(5)", x.many(5), 0);
        Due.is("trace(0)", x.trace(0), -3);
        Due.sentence(1, "SHEETS are missing at first");
        for (int sheet = 0; sheet < 4; sheet++) {
            Due.is("put(" + sheet + ", 0, 0)", x.put(sheet, 0, 0), -11);
        }
        Due.sentence(1, "SHELVES hold nothing at first");
        for (int shelf = 0; shelf < 4; shelf++) {
            Due.is("taken(" + shelf + ", 0)", x.taken(shelf, 0), -11);
            Due.is("taken(" + shelf + ", 10)", x.taken(shelf, 10), -11);
        }
        Due.sentence(1, "one object has nothing of another one");
        x.lot(5, 5);
        x.bidder(0, 0, 0, 0);
        x.draught(3, 3);
        x.keep();
        Due.is("many(0) of a new one", new InchCandle().many(0), 0);
        Due.is("again() of a new one", new InchCandle().again(), -3);
        Due.is("draught(3, 0) of a new one", new InchCandle().draught(3, 0), 0);
    }

    private static void usedFor512Calls() {
        Due.sentence(1, "an object is used for at most 512 calls, the 512th too");
        InchCandle x = new InchCandle();
        for (int call = 1; call < 512; call++) {
            Due.is("call " + call + ", step", x.step(1 + call % 20), call == 1 ? 5 : 1 + (call - 1) % 20);
        }
        Due.is("call 512, step", x.step(1), 12);
    }

    private static void lot() {
        Due.sentence(4, "WAX is 1 to 60");
        Due.range("lot(v, 50)", v -> new InchCandle().lot(v, 50), 1, 60, -1);
        Due.sentence(4, "WORTH is 1 to 99 hundredths");
        Due.range("lot(30, v)", v -> new InchCandle().lot(30, v), 1, 99, -1);
        Due.sentence(4, "the WAX and the WORTH just within are those of the LOT");
        InchCandle x = new InchCandle();
        x.lot(1, 99);
        x.lot(60, 1);
        Due.is("WAX 1", x.lotOf(0, 0), 1);
        Due.is("WORTH 99", x.lotOf(0, 1), 99);
        Due.is("WAX 60", x.lotOf(1, 0), 60);
        Due.is("WORTH 1", x.lotOf(1, 1), 1);
    }

    private static void lotFull() {
        Due.sentence(4, "LOTS, 5 at most, numbered as they come: the sixth is FULL");
        InchCandle x = new InchCandle();
        for (int i = 0; i < 5; i++) {
            Due.is("lot " + i, x.lot(10 + i, 20 + i), i);
        }
        Due.is("the sixth", x.lot(1, 1), -2);
        Due.is("many(0)", x.many(0), 5);
        for (int i = 0; i < 5; i++) {
            Due.is("WAX of " + i, x.lotOf(i, 0), 10 + i);
            Due.is("WORTH of " + i, x.lotOf(i, 1), 20 + i);
        }
        Due.sentence(4, "BAD ahead of FULL");
        Due.range("a sixth lot(v, 50)", v -> x.lot(v, 50), 1, 60, -1);
        Due.range("a sixth lot(30, v)", v -> x.lot(30, v), 1, 99, -1);
        Due.sentence(4, "LOTS that are sold are among the 5");
        for (int i = 0; i < 5; i++) {
            x.light(i);
            x.snuff();
        }
        Due.is("the sixth", x.lot(1, 1), -2);
        Due.sentence(4, "a LOT may come while a candle burns");
        InchCandle y = new InchCandle();
        y.lot(9, 9);
        y.light(0);
        Due.is("lot(1, 1)", y.lot(1, 1), 1);
        Due.is("now(0)", y.now(0), 0);
    }

    private static void lotOf() {
        InchCandle x = Due.hall("lot 10 worth 20;lot 11 worth 21;");
        Due.sentence(5, "BAD: no such LOT");
        Due.range("lotOf(v, 0)", v -> x.lotOf(v, 0), 0, 1, -1);
        InchCandle full = Due.hall("lot 1 worth 1;lot 1 worth 1;lot 1 worth 1;lot 1 worth 1;lot 1 worth 1;");
        Due.range("lotOf(v, 0) of 5", v -> full.lotOf(v, 0), 0, 4, -1);
        Due.is("lotOf(0, 0) of none", new InchCandle().lotOf(0, 0), -1);
        Due.sentence(5, "BAD: another what");
        Due.range("lotOf(1, v)", v -> x.lotOf(1, v), 0, 4, -1);
        Due.sentence(5, "BAD: neither a LOT nor a what");
        Due.is("lotOf(2, 5)", x.lotOf(2, 5), -1);
    }

    private static void lotOfPrice() {
        InchCandle x = Due.hall("lot 10 worth 20;lot 11 worth 21;bidder 0 value 9 purse 99;");
        Due.sentence(5, "PRICE is -9 and to whom is -9 while it isn't sold, THE LOT with a HOLDER too");
        Due.is("PRICE", x.lotOf(0, 3), -9);
        Due.is("to whom", x.lotOf(0, 4), -9);
        x.light(0);
        x.call(0, 9);
        Due.is("sold", x.lotOf(0, 2), 0);
        Due.is("PRICE of THE LOT", x.lotOf(0, 3), -9);
        Due.is("to whom, THE LOT", x.lotOf(0, 4), -9);
        Due.sentence(5, "PRICE and to whom of one that is sold, BIDDER 0 too");
        x.snuff();
        Due.is("sold", x.lotOf(0, 2), 1);
        Due.is("PRICE", x.lotOf(0, 3), 9);
        Due.is("to whom", x.lotOf(0, 4), 0);
        Due.sentence(5, "sold to nobody: PRICE 0, to whom -9");
        x.light(1);
        x.snuff();
        Due.is("sold", x.lotOf(1, 2), 1);
        Due.is("PRICE", x.lotOf(1, 3), 0);
        Due.is("to whom", x.lotOf(1, 4), -9);
    }

    private static void trim() {
        InchCandle x = Due.hall("lot 10 worth 20;lot 11 worth 21;");
        Due.sentence(6, "BAD: no such LOT");
        Due.range("trim(v, 0, 5)", v -> x.trim(v, 0, 5), 0, 1, -1);
        Due.is("trim(0, 0, 5) of none", new InchCandle().trim(0, 0, 5), -1);
        Due.sentence(6, "BAD: another what");
        Due.range("trim(1, v, 5)", v -> x.trim(1, v, 5), 0, 1, -1);
        Due.sentence(6, "WAX becomes 1 to 60");
        Due.range("trim(1, 0, v)", v -> x.trim(1, 0, v), 1, 60, -1);
        Due.is("trim(1, 0, 1): what it was", x.trim(1, 0, 1), 60);
        Due.is("trim(1, 0, 2): what it was", x.trim(1, 0, 2), 1);
        Due.sentence(6, "WORTH becomes 1 to 99");
        Due.range("trim(1, 1, v)", v -> x.trim(1, 1, v), 1, 99, -1);
        Due.is("trim(1, 1, 1): what it was", x.trim(1, 1, 1), 99);
        Due.is("trim(1, 1, 2): what it was", x.trim(1, 1, 2), 1);
        Due.sentence(6, "60 is the most for WAX, not for WORTH");
        Due.is("trim(0, 0, 61)", x.trim(0, 0, 61), -1);
        Due.is("trim(0, 1, 61)", x.trim(0, 1, 61), 20);
        Due.is("WAX stays", x.lotOf(0, 0), 5);
    }

    private static void trimState() {
        InchCandle x = Due.hall("lot 10 worth 20;lot 11 worth 21;lot 12 worth 22;");
        x.light(0);
        x.snuff();
        x.light(1);
        for (int lot = 0; lot < 2; lot++) {
            Due.sentence(6, lot == 0 ? "STATE: it is sold" : "STATE: it is THE LOT");
            Due.is("trim(" + lot + ", 0, 5)", x.trim(lot, 0, 5), -4);
            Due.is("trim(" + lot + ", 1, 5)", x.trim(lot, 1, 5), -4);
            Due.is("trim(" + lot + ", 0, what it is)", x.trim(lot, 0, 10 + lot), -4);
            Due.sentence(6, "BAD ahead of STATE");
            Due.is("trim(" + lot + ", 0, 0)", x.trim(lot, 0, 0), -1);
            Due.is("trim(" + lot + ", 0, 61)", x.trim(lot, 0, 61), -1);
            Due.is("trim(" + lot + ", 1, 0)", x.trim(lot, 1, 0), -1);
            Due.is("trim(" + lot + ", 1, 100)", x.trim(lot, 1, 100), -1);
            Due.is("trim(" + lot + ", 2, 5)", x.trim(lot, 2, 5), -1);
            Due.is("trim(" + lot + ", -1, 5)", x.trim(lot, -1, 5), -1);
        }
        Due.sentence(6, "another LOT than THE LOT becomes so while a candle burns");
        Due.is("trim(2, 0, 5)", x.trim(2, 0, 5), 12);
        Due.sentence(6, "one that came back is not sold");
        x.back(0);
        Due.is("trim(0, 0, 5)", x.trim(0, 0, 5), 10);
        Due.sentence(6, "LOT 0 is not THE LOT where there is none");
        InchCandle y = Due.hall("lot 10 worth 20;");
        Due.is("trim(0, 0, 5)", y.trim(0, 0, 5), 10);
    }

    private static void draught() {
        InchCandle x = new InchCandle();
        Due.sentence(7, "BAD: place is 0 to 11");
        Due.range("draught(v, 1)", v -> x.draught(v, 1), 0, 11, -1);
        Due.sentence(7, "BAD: a DRAUGHT is 0 to 3");
        Due.range("draught(5, v)", v -> x.draught(5, v), 0, 3, -1);
        Due.sentence(7, "it becomes v: what it was");
        Due.is("draught(5, 0)", x.draught(5, 0), 3);
        Due.is("draught(5, 3)", x.draught(5, 3), 0);
        Due.is("draught(5, 1)", x.draught(5, 1), 3);
        Due.sentence(7, "the others stay, the first and the last too");
        for (int place = 0; place < 12; place++) {
            int want = place == 0 || place == 5 || place == 11 ? 1 : 0;
            Due.is("draught(" + place + ", 0)", x.draught(place, 0), want);
        }
        Due.sentence(7, "a DRAUGHT counts at once while a candle burns");
        x.lot(9, 9);
        x.light(0);
        Due.is("now(6)", x.now(6), 1);
        x.draught(0, 3);
        Due.is("now(6)", x.now(6), 4);
        x.draught(1, 2);
        Due.is("now(6)", x.now(6), 4);
    }

    private static void step() {
        InchCandle x = new InchCandle();
        Due.sentence(8, "BAD: STEP is 1 to 20");
        Due.range("step(v)", x::step, 1, 20, -1);
        Due.sentence(8, "it becomes v: what it was");
        Due.is("step(1)", x.step(1), 20);
        Due.is("step(20)", x.step(20), 1);
        Due.is("step(20)", x.step(20), 20);
    }

    private static void bidder() {
        Due.sentence(9, "BAD: a KIND is 0 to 5");
        Due.range("bidder(v, 1, 1, 1)", v -> new InchCandle().bidder(v, 1, 1, 1), 0, 5, -1);
        Due.sentence(9, "BAD: A is 0 to 9");
        Due.range("bidder(1, v, 1, 1)", v -> new InchCandle().bidder(1, v, 1, 1), 0, 9, -1);
        Due.sentence(9, "BAD: a VALUE is 0 to 999");
        Due.range("bidder(1, 1, v, 1)", v -> new InchCandle().bidder(1, 1, v, 1), 0, 999, -1);
        Due.sentence(9, "BAD: a PURSE is 0 to 9999");
        Due.range("bidder(1, 1, 1, v)", v -> new InchCandle().bidder(1, 1, 1, v), 0, 9999, -1);
        Due.sentence(9, "the least and the most of each are those of the BIDDER");
        InchCandle x = new InchCandle();
        int[][] told = {{0, 0, 0, 0}, {5, 9, 999, 9999}};
        for (int b = 0; b < 2; b++) {
            Due.is("bidder", x.bidder(told[b][0], told[b][1], told[b][2], told[b][3]), b);
            for (int what = 0; what < 4; what++) {
                Due.is("bidderOf(" + b + ", " + what + ")", x.bidderOf(b, what), told[b][what]);
            }
        }
    }

    private static void bidderFull() {
        Due.sentence(9, "BIDDERS, 6 at most, numbered as they come: the seventh is FULL");
        InchCandle x = new InchCandle();
        for (int i = 0; i < 6; i++) {
            Due.is("bidder " + i, x.bidder(5 - i, i, 10 + i, 20 + i), i);
        }
        Due.is("the seventh", x.bidder(0, 0, 0, 0), -2);
        Due.is("many(1)", x.many(1), 6);
        for (int i = 0; i < 6; i++) {
            Due.is("KIND of " + i, x.bidderOf(i, 0), 5 - i);
            Due.is("PURSE of " + i, x.bidderOf(i, 3), 20 + i);
        }
        Due.sentence(9, "BAD ahead of FULL");
        Due.range("a seventh, KIND v", v -> x.bidder(v, 1, 1, 1), 0, 5, -1);
        Due.range("a seventh, A v", v -> x.bidder(1, v, 1, 1), 0, 9, -1);
        Due.range("a seventh, VALUE v", v -> x.bidder(1, 1, v, 1), 0, 999, -1);
        Due.range("a seventh, PURSE v", v -> x.bidder(1, 1, 1, v), 0, 9999, -1);
    }

    private static void bidderOf() {
        InchCandle x = Due.hall("lot 9 worth 9;lot 9 worth 9;lot 9 worth 9;lot 9 worth 9;lot 9 worth 9;"
            + "late 1 value 2 purse 30;leaper 4 value 5 purse 60;");
        Due.sentence(10, "BAD: no such BIDDER");
        Due.range("bidderOf(v, 0)", v -> x.bidderOf(v, 0), 0, 1, -1);
        Due.is("bidderOf(0, 0) of none", new InchCandle().bidderOf(0, 0), -1);
        InchCandle full = new InchCandle();
        for (int i = 0; i < 6; i++) {
            full.bidder(0, 0, 0, 0);
        }
        Due.range("bidderOf(v, 0) of 6", v -> full.bidderOf(v, 0), 0, 5, -1);
        Due.sentence(10, "BAD: another what");
        Due.range("bidderOf(1, v)", v -> x.bidderOf(1, v), 0, 4, -1);
        Due.sentence(10, "how many LOTS that one has: none to all 5");
        for (int lot = 0; lot < 5; lot++) {
            Due.is("bidderOf(1, 4)", x.bidderOf(1, 4), lot);
            x.light(lot);
            x.call(1, 10);
            Due.is("bidderOf(1, 4), the HOLDER has it not yet", x.bidderOf(1, 4), lot);
            x.snuff();
        }
        Due.is("bidderOf(1, 4)", x.bidderOf(1, 4), 5);
        Due.is("bidderOf(0, 4)", x.bidderOf(0, 4), 0);
        Due.sentence(10, "a LOT that came back is had no more");
        x.back(4);
        Due.is("bidderOf(1, 4)", x.bidderOf(1, 4), 4);
    }

    private static void mind() {
        InchCandle x = Due.hall("late 1 value 2 purse 3;leaper 4 value 5 purse 6;");
        Due.sentence(11, "BAD: no such BIDDER");
        Due.range("mind(v, 0, 0)", v -> x.mind(v, 0, 0), 0, 1, -1);
        Due.is("mind(0, 0, 0) of none", new InchCandle().mind(0, 0, 0), -1);
        Due.sentence(11, "BAD: a KIND is 0 to 5");
        Due.range("mind(1, v, 0)", v -> x.mind(1, v, 0), 0, 5, -1);
        Due.sentence(11, "BAD: A is 0 to 9");
        Due.range("mind(1, 5, v)", v -> x.mind(1, 5, v), 0, 9, -1);
        Due.sentence(11, "the KIND that it was; the same KIND, too");
        Due.is("mind(1, 5, 3)", x.mind(1, 5, 3), 5);
        Due.is("mind(1, 0, 9)", x.mind(1, 0, 9), 5);
        Due.is("mind(1, 4, 0)", x.mind(1, 4, 0), 0);
        Due.is("KIND", x.bidderOf(1, 0), 4);
        Due.is("A", x.bidderOf(1, 1), 0);
        Due.is("VALUE stays", x.bidderOf(1, 2), 5);
        Due.is("PURSE stays", x.bidderOf(1, 3), 6);
    }

    private static void purse() {
        InchCandle x = Due.hall("late 1 value 2 purse 3;leaper 4 value 5 purse 6;");
        Due.sentence(12, "BAD: no such BIDDER");
        Due.range("purse(v, 0, 0)", v -> x.purse(v, 0, 7), 0, 1, -1);
        Due.is("purse(0, 0, 0) of none", new InchCandle().purse(0, 0, 0), -1);
        Due.sentence(12, "BAD: another what");
        Due.range("purse(1, v, 8)", v -> x.purse(1, v, 8), 0, 1, -1);
        Due.sentence(12, "VALUE is 0 to 999");
        Due.range("purse(1, 0, v)", v -> x.purse(1, 0, v), 0, 999, -1);
        Due.is("purse(1, 0, 0): what it was", x.purse(1, 0, 0), 999);
        Due.is("purse(1, 0, 4): what it was", x.purse(1, 0, 4), 0);
        Due.sentence(12, "PURSE is 0 to 9999");
        Due.range("purse(1, 1, v)", v -> x.purse(1, 1, v), 0, 9999, -1);
        Due.is("purse(1, 1, 0): what it was", x.purse(1, 1, 0), 9999);
        Due.is("purse(1, 1, 1000): what it was", x.purse(1, 1, 1000), 0);
        Due.sentence(12, "999 is the most for VALUE, not for PURSE");
        Due.is("purse(1, 0, 1000)", x.purse(1, 0, 1000), -1);
        Due.is("VALUE", x.bidderOf(1, 2), 4);
        Due.is("PURSE", x.bidderOf(1, 3), 1000);
    }

    private static void limit() {
        InchCandle x = Due.hall("lot 9 worth 50;lot 9 worth 60;late 1 value 10 purse 99;late 1 value 20 purse 99;");
        Due.sentence(13, "BAD: no such BIDDER");
        Due.range("limit(v, 0)", v -> x.limit(v, 0), 0, 1, -1);
        Due.is("limit(0, 0) without BIDDERS", Due.hall("lot 9 worth 9;").limit(0, 0), -1);
        Due.sentence(13, "BAD: no such LOT");
        Due.range("limit(1, v)", v -> x.limit(1, v), 0, 1, -1);
        Due.is("limit(0, 0) without LOTS", Due.hall("late 1 value 1 purse 1;").limit(0, 0), -1);
        Due.sentence(13, "BAD: neither");
        Due.is("limit(2, 2)", x.limit(2, 2), -1);
        Due.is("limit(MIN, MAX)", x.limit(MIN, MAX), -1);
        Due.sentence(13, "LIMIT of one that is sold");
        x.light(1);
        x.snuff();
        Due.is("limit(1, 1)", x.limit(1, 1), 12);
    }

    /** VALUE, WORTH, PURSE, then LIMIT and that of a broker. */
    private static void limits(int value, int worth, int purse, int limit, int ofBroker) {
        InchCandle x = new InchCandle();
        x.lot(9, worth);
        for (int kind = 0; kind < 6; kind++) {
            x.bidder(kind, 0, value, purse);
            String call = "LIMIT of KIND " + kind + ", " + value + " by " + worth + ", PURSE " + purse;
            Due.is(call, x.limit(kind, 0), kind == 4 ? ofBroker : limit);
        }
    }

    private static void limitCut() {
        Due.sentence(13, "VALUE times WORTH by 100 is cut");
        limits(1, 99, 9999, 0, 0);
        limits(2, 50, 9999, 1, 0);
        limits(3, 66, 9999, 1, 0);
        limits(3, 67, 9999, 2, 1);
        limits(101, 99, 9999, 99, 89);
        limits(100, 1, 9999, 1, 0);
        limits(99, 1, 9999, 0, 0);
        limits(199, 1, 9999, 1, 0);
        Due.sentence(13, "LIMIT is not above PURSE");
        limits(100, 50, 49, 49, 44);
        limits(100, 50, 50, 50, 45);
        limits(100, 50, 51, 50, 45);
        limits(999, 99, 0, 0, 0);
        Due.sentence(13, "9 by 10 of it is cut, of a broker, after PURSE has held it");
        limits(999, 99, 11, 11, 9);
        limits(999, 99, 10, 10, 9);
        limits(999, 99, 9, 9, 8);
        limits(999, 99, 1, 1, 0);
        Due.sentence(13, "LIMIT of the least and of the most");
        limits(0, 99, 9999, 0, 0);
        limits(999, 99, 9999, 989, 890);
        limits(999, 1, 9999, 9, 8);
    }
}
