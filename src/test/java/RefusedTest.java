import java.util.Arrays;
import java.util.LinkedHashMap;
import java.util.Map;
import java.util.TreeSet;
import java.util.function.IntUnaryOperator;
import java.util.function.Supplier;
import java.util.function.ToIntFunction;

/**
 * A refused call leaves all as it was (of several refusals the first named), a call that only asks does so
 * too, and one that changes something changes nothing else: told by all that an object tells of itself.
 */
public final class RefusedTest {
    private static final int MIN = Integer.MIN_VALUE, MAX = Integer.MAX_VALUE;
    private static final int BAD = -1, FULL = -2, NONE = -3, STATE = -4;

    /** What the state that is tested now is made by, and its parts. */
    private static Supplier<InchCandle> made;
    private static Map<String, String> ahead;

    public static void main(String[] args) {
        in(RefusedTest::burning);
        hallRefused();
        biddersRefused();
        ticksRefused();
        trialsRefused();
        rowsRefused();
        sheetsRefused();
        shelvesRefused();
        asking();
        changingHall();
        changingTicks();
        changingHost();
        in(RefusedTest::still);
        stillRefused();
        asking();
        changingStill();
        in(RefusedTest::full);
        fullRefused();
        in(InchCandle::new);
        emptyRefused();
        Due.promises(2, 46);
        Due.end("RefusedTest");
    }

    private static void in(Supplier<InchCandle> state) {
        made = state;
        ahead = Told.parts(made);
    }

    /** No LOT burns; two are sold, and something else is kept. */
    private static InchCandle still() {
        InchCandle x = Due.hall("lot 9 worth 99;late 9 value 9 purse 9;draught 7 3;");
        x.keep();
        Due.feed(x, "lot 20 worth 90;lot 12 worth 80;lot 7 worth 70;lot 5 worth 60;bidder 0 value 90 purse 90;"
            + "leaper 1 value 99 purse 99;sniper 5 value 50 purse 500;draught 2 2;draught 11 3;step 4;");
        x.hall();
        x.seed(4711);
        x.light(0);
        x.ticks(60);
        x.light(3);
        x.snuff();
        x.prove(1);
        x.alterRow(1, 1, 77);
        x.sheet(0, 0, 6);
        x.put(0, 2, 3);
        x.put(0, 3, -5);
        x.sheet(1, 1, 3);
        x.put(1, 0, 3000);
        x.sheet(3, 3, 2);
        x.shelf(0, 0, 0);
        x.shelf(1, 1, 0);
        x.shelf(3, 0, 2);
        x.act(0, 3, 5);
        Due.feed(x, "lot 3 worth 3;step 9;");
        return x;
    }

    /** LOT 1 burns, 0 is sold to somebody, 3 to nobody, and 2 isn't. */
    private static InchCandle burning() {
        InchCandle x = still();
        x.light(1);
        x.ticks(3);
        return x;
    }

    private static InchCandle full() {
        InchCandle x = still();
        x.lot(8, 80);
        for (int i = 0; i < 3; i++) {
            x.bidder(3 + i, i, 100, 100);
        }
        Due.feed(x, " ".repeat(200 - x.many(4)));
        return x;
    }

    /** The parts that are other than ahead of a call, that answers as it should if want isn't null. */
    private static TreeSet<String> changed(String name, ToIntFunction<InchCandle> call, Integer want) {
        Map<String, String> then = new LinkedHashMap<>(Told.parts(() -> {
            InchCandle x = made.get();
            int got = call.applyAsInt(x);
            if (want != null) {
                Due.is(name, got, want);
            }
            return x;
        }));
        TreeSet<String> others = new TreeSet<>();
        for (String part : ahead.keySet()) {
            if (!then.get(part).equals(ahead.get(part))) {
                others.add(part);
            }
        }
        return others;
    }

    private static void refused(int promise, String name, int want, ToIntFunction<InchCandle> call) {
        Due.sentence(promise, name + " is refused and leaves all as it was");
        Due.same("what it changed", changed(name, call, want).toString(), "[]");
    }

    private static void asks(int promise, String name, ToIntFunction<InchCandle> call) {
        Due.sentence(promise, name + " asks and leaves all as it was");
        Due.same("what it changed", changed(name, call, null).toString(), "[]");
    }

    private static void changes(int promise, String name, int want, ToIntFunction<InchCandle> call, String... parts) {
        Due.sentence(promise, name + " changes what it tells and nothing else");
        Due.same("what it changed", changed(name, call, want).toString(), new TreeSet<>(Arrays.asList(parts)).toString());
    }

    private static void hallRefused() {
        refused(2, "feed of 0 bytes", BAD, x -> x.feed(0x3b, 0));
        refused(2, "feed of 9 bytes", BAD, x -> x.feed(0x3b, 9));
        refused(4, "lot of WAX 0", BAD, x -> x.lot(0, 50));
        refused(4, "lot of WORTH 100", BAD, x -> x.lot(50, 100));
        refused(5, "lotOf no LOT", BAD, x -> x.lotOf(4, 0));
        refused(5, "lotOf another what", BAD, x -> x.lotOf(0, 5));
        refused(6, "trim of no LOT", BAD, x -> x.trim(4, 0, 5));
        refused(6, "trim of another what", BAD, x -> x.trim(2, 2, 5));
        refused(6, "trim to WAX 61", BAD, x -> x.trim(2, 0, 61));
        refused(6, "trim to WORTH 100", BAD, x -> x.trim(2, 1, 100));
        refused(6, "trim of THE LOT", STATE, x -> x.trim(1, 0, 5));
        refused(6, "trim of one sold", STATE, x -> x.trim(0, 1, 5));
        refused(6, "trim of one sold to nobody", STATE, x -> x.trim(3, 1, 5));
        refused(6, "trim of THE LOT to WAX 0", BAD, x -> x.trim(1, 0, 0));
        refused(7, "draught at place 12", BAD, x -> x.draught(12, 1));
        refused(7, "draught of 4", BAD, x -> x.draught(2, 4));
        refused(7, "draught of -1", BAD, x -> x.draught(2, -1));
        refused(8, "step of 0", BAD, x -> x.step(0));
        refused(8, "step of 21", BAD, x -> x.step(21));
    }

    private static void biddersRefused() {
        refused(9, "bidder of KIND 6", BAD, x -> x.bidder(6, 1, 1, 1));
        refused(9, "bidder of A 10", BAD, x -> x.bidder(1, 10, 1, 1));
        refused(9, "bidder of VALUE 1000", BAD, x -> x.bidder(1, 1, 1000, 1));
        refused(9, "bidder of PURSE 10000", BAD, x -> x.bidder(1, 1, 1, 10000));
        refused(10, "bidderOf no BIDDER", BAD, x -> x.bidderOf(3, 0));
        refused(10, "bidderOf another what", BAD, x -> x.bidderOf(0, 5));
        refused(11, "mind of no BIDDER", BAD, x -> x.mind(3, 1, 1));
        refused(11, "mind to KIND 6, with an A that is right", BAD, x -> x.mind(0, 6, 7));
        refused(11, "mind to A 10, with a KIND that is right", BAD, x -> x.mind(0, 5, 10));
        refused(12, "purse of no BIDDER", BAD, x -> x.purse(3, 0, 1));
        refused(12, "purse of another what", BAD, x -> x.purse(0, 2, 1));
        refused(12, "purse to VALUE 1000", BAD, x -> x.purse(0, 0, 1000));
        refused(12, "purse to PURSE 10000", BAD, x -> x.purse(0, 1, 10000));
        refused(12, "purse to PURSE -1", BAD, x -> x.purse(0, 1, -1));
        refused(13, "limit of no BIDDER", BAD, x -> x.limit(3, 0));
        refused(13, "limit for no LOT", BAD, x -> x.limit(0, 4));
    }

    private static void ticksRefused() {
        refused(14, "light of no LOT", BAD, x -> x.light(4));
        refused(14, "light of THE LOT", STATE, x -> x.light(1));
        refused(14, "light of another LOT", STATE, x -> x.light(2));
        refused(14, "light of one sold", STATE, x -> x.light(0));
        refused(15, "now of another what", BAD, x -> x.now(7));
        refused(16, "would of no BIDDER", BAD, x -> x.would(3));
        refused(17, "ticks of -1", BAD, x -> x.ticks(-1));
        refused(17, "ticks of 61", BAD, x -> x.ticks(61));
        refused(18, "call of no BIDDER", BAD, x -> x.call(3, 99));
        refused(18, "call of 0", BAD, x -> x.call(0, 0));
        refused(18, "call of 10000", BAD, x -> x.call(0, 10000));
        refused(18, "call not above HIGH", STATE, x -> x.call(2, x.now(3)));
        refused(18, "call above PURSE", STATE, x -> x.call(2, 501));
        refused(20, "back of no LOT", BAD, x -> x.back(4));
        refused(20, "back of THE LOT", STATE, x -> x.back(1));
        refused(20, "back of one not sold", STATE, x -> x.back(2));
    }

    private static void trialsRefused() {
        for (int lot : new int[] {0, 3, 4, -1}) {
            refused(21, "end of LOT " + lot, BAD, x -> x.end(lot));
            refused(22, "wins of LOT " + lot, BAD, x -> x.wins(lot, 0));
            refused(23, "patience for LOT " + lot, BAD, x -> x.patience(0, lot));
            refused(24, "gust for LOT " + lot, BAD, x -> x.gust(0, lot));
            refused(25, "wax of LOT " + lot, BAD, x -> x.wax(lot, 0));
            refused(26, "silent of LOT " + lot, BAD, x -> x.silent(lot));
            refused(32, "prove of LOT " + lot, BAD, x -> x.prove(lot));
            refused(35, "judge of LOT " + lot, BAD, x -> x.judge(lot));
        }
        refused(22, "wins of another what", BAD, x -> x.wins(1, 2));
        refused(23, "patience of no BIDDER", BAD, x -> x.patience(3, 1));
        refused(23, "patience of one whose LIMIT is too little", NONE, RefusedTest::nonePatience);
        refused(24, "gust of no BIDDER", BAD, x -> x.gust(3, 1));
        refused(25, "wax of another what", BAD, x -> x.wax(1, 2));
        refused(27, "order of another what", BAD, x -> x.order(15));
        refused(27, "order of one that there isn't", NONE, x -> x.order(12));
        refused(28, "most for no LOT", BAD, x -> x.most(4));
        refused(29, "owed of another what", BAD, x -> x.owed(3));
        refused(31, "draw at place 12", BAD, x -> x.draw(12));
        refused(31, "draw at place -1", BAD, x -> x.draw(-1));
    }

    /** patience() and gust() of one with VALUE 0, which is put back as it was. */
    private static int nonePatience(InchCandle x) {
        int value = x.purse(0, 0, 0);
        Due.is("gust(0, 1)", x.gust(0, 1), NONE);
        int got = x.patience(0, 1);
        x.purse(0, 0, value);
        return got;
    }

    private static void rowsRefused() {
        refused(33, "row that there isn't", -9, x -> x.row(20, 0));
        refused(33, "row of another what", -9, x -> x.row(0, 3));
        refused(34, "alterRow of one that there isn't", -9, x -> x.alterRow(x.many(3), 0, 5));
        refused(34, "alterRow of -1", -9, x -> x.alterRow(-1, 0, 5));
        refused(34, "alterRow of another what", -9, x -> x.alterRow(0, 3, 5));
        refused(34, "alterRow of what -1", -9, x -> x.alterRow(1, -1, 5));
        refused(36, "draughts of no SHEET", BAD, x -> x.draughts(4, 0, 0, 1));
        refused(36, "draughts beyond 11", BAD, x -> x.draughts(0, 0, 11, 2));
        refused(36, "draughts of one missing", -11, x -> x.draughts(2, 0, 0, 1));
        refused(36, "draughts of shorts", -13, x -> x.draughts(1, 0, 0, 1));
        refused(36, "draughts of which some are outside", -12, x -> x.draughts(0, 2, 0, 5));
        refused(36, "draughts from below 0", -12, x -> x.draughts(0, -1, 0, 3));
    }

    private static void sheetsRefused() {
        refused(37, "sheet of no SHEET", BAD, x -> x.sheet(4, 0, 3));
        refused(37, "sheet of no sort", BAD, x -> x.sheet(0, 4, 3));
        refused(37, "sheet of 41", BAD, x -> x.sheet(0, 0, 41));
        refused(37, "sheet of -1", -14, x -> x.sheet(0, 0, -1));
        refused(37, "sheet of -1 of one missing", -14, x -> x.sheet(2, 0, -1));
        refused(38, "put to no SHEET", BAD, x -> x.put(4, 0, 5));
        refused(38, "put to one missing", -11, x -> x.put(2, 0, 5));
        refused(38, "put outside", -12, x -> x.put(0, 6, 5));
        refused(38, "put below 0", -12, x -> x.put(1, -1, 5));
        refused(39, "item of no SHEET", BAD, x -> x.item(4, 0, 0));
        refused(39, "item of no sort", BAD, x -> x.item(0, 4, 0));
        refused(39, "item of one missing", -11, x -> x.item(2, 0, 0));
        refused(39, "item of another sort", -13, x -> x.item(0, 1, 0));
        refused(39, "item outside", -12, x -> x.item(0, 0, 6));
    }

    private static void shelvesRefused() {
        refused(40, "shelf of no SHELF", BAD, x -> x.shelf(4, 0, 0));
        refused(40, "shelf of another what", BAD, x -> x.shelf(0, 3, 0));
        refused(40, "shelf of no BIDDER", BAD, x -> x.shelf(0, 0, 3));
        refused(40, "shelf of no SHEET", BAD, x -> x.shelf(0, 1, 4));
        refused(41, "taken from no SHELF", BAD, x -> x.taken(4, 0));
        refused(41, "taken for no KIND", BAD, x -> x.taken(0, 6));
        refused(41, "taken of nothing", -11, x -> x.taken(2, 0));
        refused(41, "taken for another KIND", -13, x -> x.taken(0, 1));
        refused(43, "trace behind the last", NONE, x -> x.trace(3));
        refused(43, "trace of -1", NONE, x -> x.trace(-1));
        refused(44, "many of another what", BAD, x -> x.many(6));
    }

    /** All that only asks, of each LOT, BIDDER and number that there is. */
    private static void asking() {
        asks(5, "lotOf", x -> sum(4, lot -> x.lotOf(lot, 0) + x.lotOf(lot, 1) + x.lotOf(lot, 2) + x.lotOf(lot, 3) + x.lotOf(lot, 4)));
        asks(10, "bidderOf", x -> sum(3, b -> x.bidderOf(b, 0) + x.bidderOf(b, 1) + x.bidderOf(b, 2) + x.bidderOf(b, 4)));
        asks(13, "limit", x -> sum(4, lot -> x.limit(0, lot) + x.limit(1, lot) + x.limit(2, lot)));
        asks(15, "now", x -> sum(7, x::now));
        asks(16, "would", x -> sum(3, x::would));
        asks(17, "ticks of 0", x -> x.ticks(0));
        asks(21, "end", x -> sum(4, x::end));
        asks(22, "wins", x -> sum(4, lot -> x.wins(lot, 0) + x.wins(lot, 1)));
        asks(23, "patience", x -> sum(3, b -> x.patience(b, 1) + x.patience(b, 2)));
        asks(24, "gust", x -> sum(3, b -> x.gust(b, 1) + x.gust(b, 2)));
        asks(25, "wax", x -> sum(4, lot -> x.wax(lot, 0) + x.wax(lot, 1)));
        asks(26, "silent", x -> sum(4, x::silent));
        asks(27, "order", x -> sum(5, i -> x.order(0) + x.order(10 + i)));
        asks(28, "most", x -> sum(4, x::most));
        asks(29, "owed", x -> sum(3, x::owed));
        asks(33, "row", x -> sum(20, i -> x.row(i, 0) + x.row(i, 1) + x.row(i, 2)));
        asks(35, "judge", x -> sum(4, x::judge));
        asks(39, "item", x -> sum(6, i -> x.item(0, 0, i) + x.item(1, 1, i) + x.item(3, 3, i)));
        asks(41, "taken", x -> sum(4, shelf -> x.taken(shelf, 0) + x.taken(shelf, 10)));
        asks(43, "trace", x -> sum(30, x::trace));
        asks(44, "many", x -> sum(6, x::many));
    }

    private static int sum(int many, IntUnaryOperator asks) {
        int sum = 0;
        for (int i = 0; i < many; i++) {
            sum += asks.applyAsInt(i);
        }
        return sum;
    }

    private static void changingHall() {
        changes(2, "feed", 22, x -> x.feed('x', 1), "THE TAPE", "THE TEXT");
        changes(3, "hall with a FAULT", -121, x -> {
            x.feed('x', 1);
            return x.hall();
        }, "THE TAPE", "THE TEXT");
        changes(3, "hall", 1, InchCandle::hall, "LOTS", "BIDDERS", "THE LOT", "DRAUGHTS", "STEP", "THE TAPE", "ROWS", "SHELVES",
            "THE TEXT");
        changes(4, "lot", 4, x -> x.lot(5, 5), "LOTS");
        changes(6, "trim of WAX", 7, x -> x.trim(2, 0, 5), "LOTS");
        changes(6, "trim of WORTH", 70, x -> x.trim(2, 1, 5), "LOTS");
        changes(7, "draught", 2, x -> x.draught(2, 1), "DRAUGHTS");
        changes(8, "step", 4, x -> x.step(5), "STEP");
        changes(9, "bidder", 3, x -> x.bidder(1, 1, 1, 1), "BIDDERS");
        changes(11, "mind of A", 0, x -> x.mind(0, 0, 5), "BIDDERS");
        changes(11, "mind of a KIND on a SHELF", 0, x -> x.mind(0, 1, 0), "BIDDERS", "SHELVES");
        changes(12, "purse of VALUE", 90, x -> x.purse(0, 0, 5), "BIDDERS");
        changes(12, "purse of PURSE", 500, x -> x.purse(2, 1, 5), "BIDDERS");
        changes(30, "seed", 4711, x -> x.seed(5), "z");
        changes(31, "draw", (4711 * 1103515245 + 12345 >>> 16) % 4, x -> x.draw(2), "DRAUGHTS", "z");
    }

    private static void changingTicks() {
        changes(17, "ticks of 1", 1, x -> x.ticks(1), "THE LOT");
        changes(17, "ticks till it is OUT", 7, x -> x.ticks(60), "THE LOT", "LOTS", "BIDDERS");
        changes(18, "call", 21, x -> x.call(2, 500), "THE LOT");
        changes(19, "snuff", 0, InchCandle::snuff, "THE LOT", "LOTS", "BIDDERS");
        changes(20, "back of one sold to nobody", 1, x -> x.back(3), "LOTS");
        changes(20, "back", 1, x -> x.back(0), "LOTS", "BIDDERS");
        changes(46, "again", 1, InchCandle::again, "LOTS", "BIDDERS", "THE LOT", "DRAUGHTS", "STEP", "z", "SHELVES");
        changes(45, "keep", 1, InchCandle::keep, "KEPT");
    }

    private static void changingHost() {
        changes(32, "prove", 1, x -> Math.min(1, x.prove(2)), "ROWS");
        changes(34, "alterRow", 77, x -> x.alterRow(1, 1, 7), "ROWS");
        changes(36, "draughts", 2, x -> x.draughts(0, 1, 2, 2), "DRAUGHTS");
        changes(37, "sheet", 1, x -> x.sheet(0, 0, 6), "SHEETS");
        changes(37, "sheet of one missing", 1, x -> x.sheet(2, 2, 0), "SHEETS");
        changes(37, "sheet that goes missing, whose row is on a SHELF", 1, x -> x.sheet(0, -1, 0), "SHEETS");
        changes(38, "put", 1, x -> x.put(0, 2, 4), "SHEETS");
        changes(40, "shelf of a BIDDER", 1, x -> x.shelf(2, 0, 1), "SHELVES");
        changes(40, "shelf of a row", 1, x -> x.shelf(0, 1, 3), "SHELVES");
        changes(40, "shelf of a row that is missing", 1, x -> x.shelf(0, 1, 2), "SHELVES");
        changes(40, "shelf of nothing", 1, x -> x.shelf(0, 2, 0), "SHELVES");
        changes(42, "act", 5, x -> x.act(0, 0, 5), "THE TRACE");
        changes(42, "act that answers -15", -15, x -> x.act(0, 2, 5), "THE TRACE");
        changes(42, "act of nothing", 0, x -> x.act(2, 0, 5), "THE TRACE");
        changes(42, "act of no SHELF", 0, x -> x.act(4, 0, 5), "THE TRACE");
    }

    private static void stillRefused() {
        refused(18, "call without a LOT", STATE, x -> x.call(2, 5));
        refused(18, "call of no BIDDER without a LOT", BAD, x -> x.call(3, 5));
        refused(18, "call of 0 without a LOT", BAD, x -> x.call(2, 0));
        refused(19, "snuff without a LOT", STATE, InchCandle::snuff);
        refused(14, "light of one sold", STATE, x -> x.light(0));
        refused(14, "light of one sold to nobody", STATE, x -> x.light(3));
        refused(14, "light of no LOT", BAD, x -> x.light(4));
        refused(17, "ticks of 61 without a LOT", BAD, x -> x.ticks(61));
        refused(15, "now of another what", BAD, x -> x.now(-1));
    }

    private static void changingStill() {
        changes(14, "light", 1, x -> x.light(2), "THE LOT");
        changes(17, "ticks without a LOT", 0, x -> x.ticks(60));
        changes(16, "would without a LOT", 0, x -> x.would(0));
        changes(6, "trim of a LOT that is not lit", 12, x -> x.trim(1, 0, 60), "LOTS");
    }

    private static void fullRefused() {
        refused(2, "feed of 1 byte to 200", FULL, x -> x.feed('x', 1));
        refused(2, "feed of 8 bytes to 200", FULL, x -> x.feed(0x7878787878787878L, 8));
        refused(2, "feed of 9 bytes to 200", BAD, x -> x.feed(0x78, 9));
        refused(2, "feed of 0 bytes to 200", BAD, x -> x.feed(0x78, 0));
        refused(4, "a sixth lot", FULL, x -> x.lot(5, 5));
        refused(4, "a sixth lot of WAX 0", BAD, x -> x.lot(0, 5));
        refused(4, "a sixth lot of WORTH 0", BAD, x -> x.lot(5, 0));
        refused(9, "a seventh bidder", FULL, x -> x.bidder(1, 1, 1, 1));
        refused(9, "a seventh bidder of KIND -1", BAD, x -> x.bidder(-1, 1, 1, 1));
        refused(9, "a seventh bidder of A -1", BAD, x -> x.bidder(1, -1, 1, 1));
        refused(9, "a seventh bidder of VALUE -1", BAD, x -> x.bidder(1, 1, -1, 1));
        refused(9, "a seventh bidder of PURSE -1", BAD, x -> x.bidder(1, 1, 1, -1));
    }

    private static void emptyRefused() {
        refused(46, "again of nothing kept", NONE, InchCandle::again);
        refused(27, "order of the sum without LOTS", NONE, x -> x.order(0));
        refused(27, "order of the first without LOTS", NONE, x -> x.order(10));
        refused(27, "order of another what without LOTS", BAD, x -> x.order(9));
        refused(28, "most without LOTS and BIDDERS", BAD, x -> x.most(0));
        refused(26, "silent without LOTS and BIDDERS", BAD, x -> x.silent(0));
        refused(19, "snuff", STATE, InchCandle::snuff);
        refused(18, "call", BAD, x -> x.call(0, 5));
        refused(16, "would", BAD, x -> x.would(0));
        refused(43, "trace", NONE, x -> x.trace(0));
        refused(33, "row", -9, x -> x.row(0, 0));
        refused(34, "alterRow", -9, x -> x.alterRow(0, 0, 5));
        refused(38, "put", -11, x -> x.put(0, 0, 5));
        refused(36, "draughts of n 0", -11, x -> x.draughts(0, 0, 0, 0));
        refused(41, "taken", -11, x -> x.taken(0, 0));
        refused(44, "many of the farthest ints", BAD, x -> Math.max(x.many(MIN), x.many(MAX)));
        changes(3, "hall of an empty TAPE", 0, InchCandle::hall);
        changes(45, "keep", 1, InchCandle::keep, "KEPT");
        changes(42, "act", 0, x -> x.act(0, 0, 5));
    }
}
