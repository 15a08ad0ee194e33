/** Promises 45 and 46: what is kept, and what stays as it is. */
public final class KeptTest {
    private static final String TEXT = "lot 9 worth 50;lot 5 worth 60;bidder 1 value 90 purse 80;late 2 value 70 purse 60;draught 4 2;step 6;";

    public static void main(String[] args) {
        nothingKept();
        allKept();
        staysAsItIs();
        latest();
        Due.end("KeptTest");
    }

    private static void nothingKept() {
        InchCandle x = Due.hall(TEXT);
        Due.is("again()", x.again(), -3);
        Due.is("many(0)", x.many(0), 2);
        InchCandle y = new InchCandle();
        Due.is("keep()", y.keep(), 1);
        y.lot(5, 5);
        Due.is("again()", y.again(), 0);
        Due.is("many(0)", y.many(0), 0);
    }

    private static void allKept() {
        InchCandle x = Due.hall(TEXT);
        x.seed(99);
        x.light(1);
        x.ticks(1);
        x.snuff();
        x.light(0);
        x.ticks(3);
        int[] now = {0, 3, 3, 12, 0, 6, 1};
        x.call(0, 12);
        int purse = x.bidderOf(1, 3);
        int price = x.lotOf(1, 3);
        Due.yes("LOT 1 was sold for something", price > 0 && purse == 60 - price);
        Due.is("keep()", x.keep(), 1);
        x.snuff();
        x.back(1);
        x.trim(1, 0, 33);
        x.trim(1, 1, 33);
        x.lot(3, 3);
        x.bidder(0, 0, 0, 0);
        x.mind(0, 3, 3);
        x.purse(0, 0, 3);
        x.purse(0, 1, 3);
        x.draught(4, 3);
        x.draught(5, 3);
        x.step(3);
        x.seed(3);
        for (int times = 0; times < 2; times++) {
            Due.is("again()", x.again(), 2);
            for (int what = 0; what < 7; what++) {
                Due.is("now(" + what + ")", x.now(what), now[what]);
            }
            Due.is("LOTS", x.many(0), 2);
            Due.is("BIDDERS", x.many(1), 2);
            Due.is("LOTS sold", x.many(2), 1);
            Due.is("LOT 0 is not sold", x.lotOf(0, 2), 0);
            Due.is("LOT 1 is sold", x.lotOf(1, 2), 1);
            Due.is("WAX", x.lotOf(1, 0), 5);
            Due.is("WORTH", x.lotOf(1, 1), 60);
            Due.is("PRICE", x.lotOf(1, 3), price);
            Due.is("to whom", x.lotOf(1, 4), 1);
            Due.is("KIND", x.bidderOf(0, 0), 0);
            Due.is("A", x.bidderOf(0, 1), 1);
            Due.is("VALUE", x.bidderOf(0, 2), 90);
            Due.is("PURSE", x.bidderOf(1, 3), purse);
            Due.is("PURSE", x.bidderOf(0, 3), 80);
            Due.is("DRAUGHT", x.draught(4, 0), 2);
            Due.is("DRAUGHT", x.draught(5, 1), 0);
            Due.is("STEP", x.step(1), 6);
            Due.is("z", x.seed(1), 99);
            Due.is("ticks(60)", x.ticks(60) > 0 ? 1 : 0, 1);
        }
    }

    private static void staysAsItIs() {
        InchCandle x = Due.hall(TEXT);
        x.sheet(0, 2, 4);
        x.shelf(0, 0, 1);
        x.shelf(1, 1, 0);
        x.keep();
        Due.feed(x, "abcd");
        int rows = x.prove(0);
        x.sheet(0, 1, 6);
        x.put(0, 5, 77);
        x.shelf(2, 1, 0);
        x.shelf(0, 0, 0);
        x.act(0, 3, 4);
        Due.is("again()", x.again(), 2);
        Due.is("THE TAPE", x.many(4), 4);
        Due.is("ROWS", x.many(3), rows);
        Due.yes("ROWS", rows > 0 && x.row(0, 2) > 0);
        Due.is("a SHEET", x.item(0, 1, 5), 77);
        Due.is("a SHELF", x.taken(2, 11), 6);
        Due.is("a SHELF", x.taken(0, 0), 0);
        Due.is("a SHELF", x.taken(1, 12), 4);
        Due.is("THE TRACE", x.trace(0), 13);
        x.keep();
        Due.is("ROWS", x.many(3), rows);
        Due.is("THE TAPE", x.many(4), 4);
        Due.is("THE TRACE", x.many(5), 3);
        x.bidder(4, 0, 0, 0);
        x.shelf(3, 0, 2);
        x.again();
        Due.is("a SHELF whose BIDDER is not kept", x.taken(3, 0), -11);
    }

    private static void latest() {
        InchCandle x = new InchCandle();
        x.lot(1, 1);
        x.keep();
        x.lot(2, 2);
        x.keep();
        x.lot(3, 3);
        Due.is("again()", x.again(), 2);
        Due.is("WAX", x.lotOf(1, 0), 2);
        Due.feed(x, "lot x");
        Due.is("hall()", x.hall(), -104);
        Due.feed(x, TEXT + "lot 7 worth 7;");
        Due.is("hall()", x.hall(), 3);
        Due.is("again()", x.again(), 2);
        Due.is("WAX", x.lotOf(0, 0), 1);
        Due.is("BIDDERS", x.many(1), 0);
        x.lot(4, 4);
        Due.is("what is kept stays", x.again(), 2);
    }
}
