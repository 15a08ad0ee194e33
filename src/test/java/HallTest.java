/** Promises 1 and 4 to 13: a new object, LOTS, DRAUGHTS, STEP, BIDDERS, LIMIT. */
public final class HallTest {
    public static void main(String[] args) {
        newObject();
        lots();
        trimmed();
        draughtsAndStep();
        bidders();
        minds();
        purses();
        limits();
        Due.end("HallTest");
    }

    private static void newObject() {
        InchCandle x = new InchCandle();
        for (int what = 0; what <= 5; what++) {
            Due.is("many(" + what + ")", x.many(what), 0);
        }
        for (int place = 0; place < 12; place++) {
            Due.is("draught(" + place + ", 1)", x.draught(place, 1), 0);
        }
        Due.is("step(7)", x.step(7), 5);
        Due.is("now(0)", x.now(0), -9);
        Due.is("seed(3)", x.seed(3), 1);
        Due.is("again()", x.again(), -3);
        Due.is("trace(0)", x.trace(0), -3);
        Due.is("taken(0, 0)", x.taken(0, 0), -11);
        Due.is("item(3, 0, 0)", x.item(3, 0, 0), -11);
        Due.is("lotOf(0, 0)", x.lotOf(0, 0), -1);
        Due.is("bidderOf(0, 0)", x.bidderOf(0, 0), -1);
    }

    private static void lots() {
        InchCandle x = new InchCandle();
        Due.is("lot(0, 50)", x.lot(0, 50), -1);
        Due.is("lot(61, 50)", x.lot(61, 50), -1);
        Due.is("lot(1, 0)", x.lot(1, 0), -1);
        Due.is("lot(1, 100)", x.lot(1, 100), -1);
        Due.is("many(0)", x.many(0), 0);
        Due.is("lot(1, 99)", x.lot(1, 99), 0);
        Due.is("lot(60, 1)", x.lot(60, 1), 1);
        Due.is("lot(30, 45)", x.lot(30, 45), 2);
        Due.is("lot(31, 46)", x.lot(31, 46), 3);
        Due.is("lot(32, 47)", x.lot(32, 47), 4);
        Due.is("lot(33, 48)", x.lot(33, 48), -2);
        Due.is("lot(0, 48), BAD ahead of FULL", x.lot(0, 48), -1);
        Due.is("many(0)", x.many(0), 5);
        Due.is("lotOf(2, 0)", x.lotOf(2, 0), 30);
        Due.is("lotOf(2, 1)", x.lotOf(2, 1), 45);
        Due.is("lotOf(2, 2)", x.lotOf(2, 2), 0);
        Due.is("lotOf(2, 3)", x.lotOf(2, 3), -9);
        Due.is("lotOf(2, 4)", x.lotOf(2, 4), -9);
        Due.is("lotOf(2, 5)", x.lotOf(2, 5), -1);
        Due.is("lotOf(2, -1)", x.lotOf(2, -1), -1);
        Due.is("lotOf(5, 0)", x.lotOf(5, 0), -1);
        Due.is("lotOf(-1, 0)", x.lotOf(-1, 0), -1);
        Due.is("lotOf(4, 1)", x.lotOf(4, 1), 47);
    }

    private static void trimmed() {
        InchCandle x = Due.hall("lot 10 worth 20; lot 11 worth 21; lot 12 worth 22;");
        Due.is("trim(1, 0, 60)", x.trim(1, 0, 60), 11);
        Due.is("trim(1, 0, 1)", x.trim(1, 0, 1), 60);
        Due.is("trim(1, 0, 0)", x.trim(1, 0, 0), -1);
        Due.is("trim(1, 0, 61)", x.trim(1, 0, 61), -1);
        Due.is("trim(1, 1, 99)", x.trim(1, 1, 99), 21);
        Due.is("trim(1, 1, 61)", x.trim(1, 1, 61), 99);
        Due.is("trim(1, 1, 0)", x.trim(1, 1, 0), -1);
        Due.is("trim(1, 1, 100)", x.trim(1, 1, 100), -1);
        Due.is("trim(1, 2, 5)", x.trim(1, 2, 5), -1);
        Due.is("trim(1, -1, 5)", x.trim(1, -1, 5), -1);
        Due.is("trim(3, 0, 5)", x.trim(3, 0, 5), -1);
        Due.is("lotOf(1, 0)", x.lotOf(1, 0), 1);
        Due.is("lotOf(1, 1)", x.lotOf(1, 1), 61);
        Due.is("lotOf(0, 0)", x.lotOf(0, 0), 10);
        Due.is("light(0)", x.light(0), 1);
        Due.is("trim(0, 0, 5) of THE LOT", x.trim(0, 0, 5), -4);
        Due.is("trim(0, 1, 5) of THE LOT", x.trim(0, 1, 5), -4);
        Due.is("trim(0, 0, 61), BAD ahead of STATE", x.trim(0, 0, 61), -1);
        Due.is("trim(2, 0, 5) of another", x.trim(2, 0, 5), 12);
        Due.is("snuff()", x.snuff(), -9);
        Due.is("trim(0, 0, 5) of one sold", x.trim(0, 0, 5), -4);
        Due.is("back(0)", x.back(0), 1);
        Due.is("trim(0, 0, 5)", x.trim(0, 0, 5), 10);
    }

    private static void draughtsAndStep() {
        InchCandle x = new InchCandle();
        Due.is("draught(0, 3)", x.draught(0, 3), 0);
        Due.is("draught(11, 2)", x.draught(11, 2), 0);
        Due.is("draught(0, 1)", x.draught(0, 1), 3);
        Due.is("draught(11, 0)", x.draught(11, 0), 2);
        Due.is("draught(12, 0)", x.draught(12, 0), -1);
        Due.is("draught(-1, 0)", x.draught(-1, 0), -1);
        Due.is("draught(0, 4)", x.draught(0, 4), -1);
        Due.is("draught(0, -1)", x.draught(0, -1), -1);
        Due.is("draught(0, 0)", x.draught(0, 0), 1);
        Due.is("step(1)", x.step(1), 5);
        Due.is("step(20)", x.step(20), 1);
        Due.is("step(21)", x.step(21), -1);
        Due.is("step(0)", x.step(0), -1);
        Due.is("step(9)", x.step(9), 20);
    }

    private static void bidders() {
        InchCandle x = new InchCandle();
        Due.is("bidder(-1, 0, 0, 0)", x.bidder(-1, 0, 0, 0), -1);
        Due.is("bidder(6, 0, 0, 0)", x.bidder(6, 0, 0, 0), -1);
        Due.is("bidder(0, -1, 0, 0)", x.bidder(0, -1, 0, 0), -1);
        Due.is("bidder(0, 10, 0, 0)", x.bidder(0, 10, 0, 0), -1);
        Due.is("bidder(0, 0, -1, 0)", x.bidder(0, 0, -1, 0), -1);
        Due.is("bidder(0, 0, 1000, 0)", x.bidder(0, 0, 1000, 0), -1);
        Due.is("bidder(0, 0, 0, -1)", x.bidder(0, 0, 0, -1), -1);
        Due.is("bidder(0, 0, 0, 10000)", x.bidder(0, 0, 0, 10000), -1);
        for (int kind = 0; kind < 6; kind++) {
            Due.is("bidder of kind " + kind, x.bidder(kind, kind + 4, 999 - kind, 9999 - kind), kind);
        }
        Due.is("a seventh", x.bidder(0, 0, 0, 0), -2);
        Due.is("a seventh, BAD ahead of FULL", x.bidder(6, 0, 0, 0), -1);
        Due.is("many(1)", x.many(1), 6);
        for (int i = 0; i < 6; i++) {
            Due.is("KIND", x.bidderOf(i, 0), i);
            Due.is("A", x.bidderOf(i, 1), i + 4);
            Due.is("VALUE", x.bidderOf(i, 2), 999 - i);
            Due.is("PURSE", x.bidderOf(i, 3), 9999 - i);
            Due.is("LOTS", x.bidderOf(i, 4), 0);
        }
        Due.is("bidderOf(0, 5)", x.bidderOf(0, 5), -1);
        Due.is("bidderOf(0, -1)", x.bidderOf(0, -1), -1);
        Due.is("bidderOf(6, 0)", x.bidderOf(6, 0), -1);
        Due.is("bidderOf(-1, 0)", x.bidderOf(-1, 0), -1);
        lotsOfBidders();
    }

    private static void lotsOfBidders() {
        InchCandle x = Due.hall("lot 5 worth 9;lot 5 worth 9;lot 5 worth 9;bidder 0 value 0 purse 50;bidder 0 value 0 purse 50;");
        sellTo(x, 0, 1, 7);
        sellTo(x, 2, 1, 8);
        Due.is("bidderOf(1, 4)", x.bidderOf(1, 4), 2);
        Due.is("bidderOf(0, 4)", x.bidderOf(0, 4), 0);
        Due.is("bidderOf(1, 3)", x.bidderOf(1, 3), 35);
        x.back(0);
        Due.is("bidderOf(1, 4)", x.bidderOf(1, 4), 1);
    }

    private static void sellTo(InchCandle x, int lot, int bidder, int price) {
        x.light(lot);
        x.call(bidder, price);
        Due.is("snuff()", x.snuff(), bidder);
    }

    private static void minds() {
        InchCandle x = Due.hall("bidder 3 value 5 purse 5;");
        Due.is("mind(0, 5, 9)", x.mind(0, 5, 9), 0);
        Due.is("mind(0, 4, 0)", x.mind(0, 4, 0), 5);
        Due.is("A", x.bidderOf(0, 1), 0);
        Due.is("mind(0, 6, 0)", x.mind(0, 6, 0), -1);
        Due.is("mind(0, -1, 0)", x.mind(0, -1, 0), -1);
        Due.is("mind(0, 0, 10)", x.mind(0, 0, 10), -1);
        Due.is("mind(0, 0, -1)", x.mind(0, 0, -1), -1);
        Due.is("mind(1, 0, 0)", x.mind(1, 0, 0), -1);
        Due.is("mind(-1, 0, 0)", x.mind(-1, 0, 0), -1);
        Due.is("KIND", x.bidderOf(0, 0), 4);
        Due.is("VALUE", x.bidderOf(0, 2), 5);
    }

    private static void purses() {
        InchCandle x = Due.hall("bidder 3 value 5 purse 6;");
        Due.is("purse(0, 0, 999)", x.purse(0, 0, 999), 5);
        Due.is("purse(0, 0, 1000)", x.purse(0, 0, 1000), -1);
        Due.is("purse(0, 0, -1)", x.purse(0, 0, -1), -1);
        Due.is("purse(0, 0, 0)", x.purse(0, 0, 0), 999);
        Due.is("purse(0, 1, 9999)", x.purse(0, 1, 9999), 6);
        Due.is("purse(0, 1, 10000)", x.purse(0, 1, 10000), -1);
        Due.is("purse(0, 1, -1)", x.purse(0, 1, -1), -1);
        Due.is("purse(0, 1, 0)", x.purse(0, 1, 0), 9999);
        Due.is("purse(0, 2, 0)", x.purse(0, 2, 0), -1);
        Due.is("purse(0, -1, 0)", x.purse(0, -1, 0), -1);
        Due.is("purse(1, 0, 0)", x.purse(1, 0, 0), -1);
        Due.is("VALUE", x.bidderOf(0, 2), 0);
        Due.is("PURSE", x.bidderOf(0, 3), 0);
    }

    private static void limits() {
        InchCandle x = Due.hall("lot 10 worth 33; lot 3 worth 99;");
        for (int kind = 0; kind < 6; kind++) {
            x.bidder(kind, 0, 200, 100);
            Due.is("limit of kind " + kind, x.limit(kind, 0), kind == 4 ? 59 : 66);
            Due.is("limit of kind " + kind + " by PURSE", x.limit(kind, 1), kind == 4 ? 90 : 100);
        }
        x.purse(0, 0, 199);
        Due.is("65.67, cut", x.limit(0, 0), 65);
        x.purse(4, 0, 199);
        Due.is("9 by 10 of 65, cut", x.limit(4, 0), 58);
        x.purse(0, 1, 65);
        Due.is("limit(0, 0)", x.limit(0, 0), 65);
        x.purse(0, 1, 64);
        Due.is("limit(0, 0)", x.limit(0, 0), 64);
        Due.is("limit(6, 0)", x.limit(6, 0), -1);
        Due.is("limit(-1, 0)", x.limit(-1, 0), -1);
        Due.is("limit(0, 2)", x.limit(0, 2), -1);
        Due.is("limit(0, -1)", x.limit(0, -1), -1);
        x.light(0);
        x.snuff();
        Due.is("limit for one that is sold", x.limit(0, 0), 64);
    }
}
