import java.util.Map;

/** The boundary cases that promises 45 and 46 name, a test for each sentence. */
public final class EdgesKeptTest {
    public static void main(String[] args) {
        keepNothing();
        keepFull();
        keepTheLot();
        notKept();
        againNone();
        againLatest();
        againCopies();
        Due.promises(45, 46);
        Due.end("EdgesKeptTest");
    }

    private static void keepNothing() {
        Due.sentence(45, "1, with nothing there");
        InchCandle x = new InchCandle();
        Due.is("keep()", x.keep(), 1);
        x.lot(1, 1);
        x.bidder(0, 0, 0, 0);
        x.draught(3, 3);
        x.step(9);
        x.seed(9);
        x.light(0);
        Due.sentence(46, "how many LOTS: none, and that is no NONE");
        Due.is("again()", x.again(), 0);
        Due.is("many(0)", x.many(0), 0);
        Due.is("many(1)", x.many(1), 0);
        Due.is("draught(3, 0)", x.draught(3, 0), 0);
        Due.is("step(5)", x.step(5), 5);
        Due.is("seed(1)", x.seed(1), 1);
        Due.is("now(0)", x.now(0), -9);
    }

    private static InchCandle full() {
        InchCandle x = new InchCandle();
        for (int i = 0; i < 5; i++) {
            x.lot(60 - i, 99 - i);
        }
        for (int i = 0; i < 6; i++) {
            x.bidder(i, 9 - i, 999 - i, 9999 - i);
        }
        for (int place = 0; place < 12; place++) {
            x.draught(place, place % 4);
        }
        x.step(20);
        x.seed(Integer.MIN_VALUE);
        x.light(0);
        x.ticks(60);
        x.light(1);
        x.snuff();
        x.light(4);
        x.ticks(7);
        return x;
    }

    /** All of the hall becomes another. */
    private static void upset(InchCandle x) {
        x.hall();
        x.lot(1, 1);
        x.bidder(0, 0, 0, 0);
        x.light(0);
        x.seed(5);
        x.step(2);
    }

    private static void keepFull() {
        Due.sentence(45, "all is kept: 5 LOTS, sold and not, 6 BIDDERS, 12 DRAUGHTS, STEP, z, THE LOT and its candle");
        Map<String, String> ahead = Told.parts(EdgesKeptTest::full);
        Map<String, String> then = Told.parts(() -> {
            InchCandle x = full();
            x.keep();
            upset(x);
            x.again();
            return x;
        });
        for (String part : new String[] {"LOTS", "BIDDERS", "THE LOT", "DRAUGHTS", "STEP", "z"}) {
            Due.same(part, then.get(part), ahead.get(part));
        }
        Due.sentence(46, "how many LOTS: all 5");
        InchCandle x = full();
        x.keep();
        upset(x);
        Due.is("again()", x.again(), 5);
        Due.is("many(2)", x.many(2), 2);
        Due.sentence(46, "FULL it is again");
        Due.is("lot(1, 1)", x.lot(1, 1), -2);
        Due.is("bidder(0, 0, 0, 0)", x.bidder(0, 0, 0, 0), -2);
    }

    private static void keepTheLot() {
        Due.sentence(45, "THE LOT burns on from where it was, as often as one likes");
        InchCandle x = Due.hall("lot 9 worth 99;bidder 3 value 99 purse 99;bidder 0 value 99 purse 99;draught 4 2;");
        x.light(0);
        x.ticks(4);
        x.keep();
        Due.is("ticks(60)", x.ticks(60), 3);
        int price = x.lotOf(0, 3);
        for (int times = 0; times < 2; times++) {
            Due.is("again()", x.again(), 1);
            Due.is("TICK", x.now(1), 4);
            Due.is("BURNT", x.now(2), 4);
            Due.is("burns", x.now(6), 3);
            Due.is("ticks(60)", x.ticks(60), 3);
            Due.is("PRICE", x.lotOf(0, 3), price);
        }
        Due.sentence(45, "kept without THE LOT, it is none again while one burns");
        InchCandle y = Due.hall("lot 9 worth 99;");
        y.keep();
        y.light(0);
        y.ticks(3);
        Due.is("again()", y.again(), 1);
        Due.is("now(0)", y.now(0), -9);
        Due.is("snuff()", y.snuff(), -4);
        Due.is("light(0)", y.light(0), 1);
        Due.is("now(1)", y.now(1), 0);
    }

    private static InchCandle withHost() {
        InchCandle x = Due.hall("lot 9 worth 99;bidder 3 value 99 purse 99;");
        x.keep();
        Due.feed(x, "step 7;");
        x.prove(0);
        x.sheet(1, 1, 3);
        x.put(1, 2, 300);
        x.shelf(0, 0, 0);
        x.shelf(1, 1, 1);
        x.act(0, 3, 4);
        return x;
    }

    private static void notKept() {
        Due.sentence(45, "THE TAPE, ROWS, SHEETS, SHELVES, THE TRACE stay as they are");
        Map<String, String> ahead = Told.parts(EdgesKeptTest::withHost);
        Map<String, String> kept = Told.parts(() -> {
            InchCandle x = withHost();
            x.keep();
            return x;
        });
        Map<String, String> again = Told.parts(() -> {
            InchCandle x = withHost();
            x.again();
            return x;
        });
        for (String part : new String[] {"THE TAPE", "THE TEXT", "ROWS", "SHEETS", "SHELVES", "THE TRACE"}) {
            Due.same(part + " with keep()", kept.get(part), ahead.get(part));
            Due.same(part + " with again()", again.get(part), ahead.get(part));
        }
        Due.sentence(46, "THE TAPE, ROWS, SHEETS, SHELVES, THE TRACE aren't what they were with keep()");
        InchCandle x = withHost();
        x.again();
        Due.is("many(4)", x.many(4), 7);
        Due.is("many(3)", x.many(3), 1);
        Due.is("item(1, 1, 2)", x.item(1, 1, 2), 300);
        Due.is("taken(0, 0)", x.taken(0, 0), 0);
        Due.is("taken(1, 11)", x.taken(1, 11), 3);
        Due.is("many(5)", x.many(5), 3);
    }

    private static void againNone() {
        Due.sentence(46, "NONE: nothing is kept, and all stays");
        InchCandle x = full();
        Due.is("again()", x.again(), -3);
        Due.is("many(0)", x.many(0), 5);
        Due.is("now(0)", x.now(0), 4);
        Due.sentence(46, "NONE again and again, hall() or not; then something is kept");
        x.hall();
        Due.is("again()", x.again(), -3);
        Due.is("again()", new InchCandle().again(), -3);
        x.keep();
        Due.is("again()", x.again(), 0);
    }

    private static void againLatest() {
        Due.sentence(46, "what was kept latest");
        InchCandle x = new InchCandle();
        x.keep();
        for (int lots = 1; lots <= 5; lots++) {
            x.lot(lots, lots);
            x.keep();
        }
        x.hall();
        Due.is("again()", x.again(), 5);
        Due.is("lotOf(4, 0)", x.lotOf(4, 0), 5);
        Due.sentence(46, "fewer, kept behind more");
        x.hall();
        x.keep();
        x.lot(7, 7);
        Due.is("again()", x.again(), 0);
        Due.is("lotOf(0, 0)", x.lotOf(0, 0), -1);
    }

    private static void againCopies() {
        Due.sentence(46, "which stays: what comes behind keep() and again() doesn't touch it");
        InchCandle x = Due.hall("lot 9 worth 99;bidder 3 value 99 purse 99;draught 3 1;");
        x.keep();
        for (int times = 0; times < 3; times++) {
            x.trim(0, 0, 30);
            x.trim(0, 1, 30);
            x.mind(0, 5, 5);
            x.purse(0, 0, 5);
            x.purse(0, 1, 50);
            x.draught(3, 3);
            x.draw(4);
            x.step(9);
            x.light(0);
            x.call(0, 50);
            x.snuff();
            x.lot(5, 5);
            x.bidder(0, 0, 0, 0);
            Due.is("again()", x.again(), 1);
            int[] lot = {9, 99, 0, -9, -9};
            int[] bidder = {0, 3, 99, 99, 0};
            for (int what = 0; what < 5; what++) {
                Due.is("lotOf(0, " + what + ")", x.lotOf(0, what), lot[what]);
                Due.is("bidderOf(0, " + what + ")", x.bidderOf(0, what), bidder[what]);
            }
            Due.is("many(1)", x.many(1), 1);
            Due.is("draught(3, 1)", x.draught(3, 1), 1);
            Due.is("draught(4, 0)", x.draught(4, 0), 0);
            Due.is("step(5)", x.step(5), 5);
            Due.is("seed(1)", x.seed(1), 1);
        }
    }
}
