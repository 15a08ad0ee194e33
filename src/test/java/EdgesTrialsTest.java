import java.util.function.IntUnaryOperator;

/** The boundary cases that promises 21 to 31 name, a test for each sentence. */
public final class EdgesTrialsTest {
    private static final int MIN = Integer.MIN_VALUE, MAX = Integer.MAX_VALUE;

    public static void main(String[] args) {
        refusedLots();
        refusedBidders();
        end();
        wins();
        winsLimit();
        patience();
        patienceNine();
        patienceNone();
        gust();
        gustLast();
        gustNone();
        wax();
        waxEdges();
        silent();
        silentNone();
        orderWhat();
        orderNone();
        orderOfSeveral();
        orderPurses();
        orderTheLot();
        most();
        owed();
        owedMost();
        seed();
        draw();
        drawWraps();
        Due.promises(21, 31);
        Due.end("EdgesTrialsTest");
    }

    private static void refusedLot(int promise, String call, IntUnaryOperator asks) {
        Due.sentence(promise, "BAD: no such LOT, " + call);
        for (int lot : new int[] {-1, 3, 5, MIN, MAX}) {
            Due.is(call + " of LOT " + lot, asks.applyAsInt(lot), -1);
        }
        Due.sentence(promise, "BAD: also one that is sold, " + call);
        Due.is(call + " of one sold to somebody", asks.applyAsInt(0), -1);
        Due.is(call + " of one sold to nobody", asks.applyAsInt(1), -1);
        Due.sentence(promise, "THE LOT is not sold, " + call);
        Due.yes(call + " of THE LOT", asks.applyAsInt(2) != -1);
    }

    private static void refusedLots() {
        InchCandle x = Due.hall("lot 9 worth 99;lot 9 worth 99;lot 9 worth 99;bidder 0 value 99 purse 99;");
        x.light(0);
        x.ticks(9);
        x.light(1);
        x.snuff();
        x.light(2);
        refusedLot(21, "end", x::end);
        refusedLot(22, "wins of what 0", v -> x.wins(v, 0));
        refusedLot(22, "wins of what 1", v -> x.wins(v, 1));
        refusedLot(23, "patience", v -> x.patience(0, v));
        refusedLot(24, "gust", v -> x.gust(0, v));
        refusedLot(25, "wax of what 0", v -> x.wax(v, 0));
        refusedLot(25, "wax of what 1", v -> x.wax(v, 1));
        refusedLot(26, "silent", x::silent);
        Due.sentence(21, "without LOTS there is no LOT 0");
        Due.is("end(0)", new InchCandle().end(0), -1);
        Due.sentence(22, "BAD: another what");
        Due.range("wins(2, v)", v -> x.wins(2, v), 0, 1, -1);
        Due.is("wins(0, 2) of one sold", x.wins(0, 2), -1);
        Due.sentence(25, "BAD: another what");
        Due.range("wax(2, v)", v -> x.wax(2, v), 0, 1, -1);
        Due.is("wax(0, 2) of one sold", x.wax(0, 2), -1);
        Due.sentence(21, "one that came back is not sold");
        x.back(0);
        Due.is("end(0)", x.end(0), 9);
    }

    private static void refusedBidders() {
        InchCandle x = Due.hall("lot 9 worth 99;bidder 0 value 99 purse 99;late 9 value 99 purse 99;");
        Due.sentence(23, "BAD: no such BIDDER");
        Due.range("patience(v, 0)", v -> x.patience(v, 0), 0, 1, -1);
        Due.sentence(24, "BAD: no such BIDDER");
        Due.range("gust(v, 0)", v -> x.gust(v, 0), 0, 1, -1);
        Due.sentence(23, "BAD ahead of NONE");
        x.purse(0, 0, 0);
        Due.is("patience(0, 0)", x.patience(0, 0), -3);
        Due.is("patience(0, 1)", x.patience(0, 1), -1);
        Due.is("patience(2, 0)", x.patience(2, 0), -1);
        Due.sentence(24, "BAD ahead of NONE");
        Due.is("gust(0, 0)", x.gust(0, 0), -3);
        Due.is("gust(0, 1)", x.gust(0, 1), -1);
        Due.is("gust(2, 0)", x.gust(2, 0), -1);
    }

    private static void endOf(int wax, String draughts, int want) {
        InchCandle x = Due.hall("lot " + wax + " worth 9;" + draughts);
        Due.is("end(0) of WAX " + wax + " " + draughts, x.end(0), want);
    }

    private static void end() {
        StringBuilder all = new StringBuilder();
        for (int place = 0; place < 12; place++) {
            all.append("draught ").append(place).append(" 3;");
        }
        Due.sentence(21, "how many TICKS: of the shortest and the longest candle");
        endOf(1, "", 1);
        endOf(60, "", 60);
        endOf(1, "draught 0 3;", 1);
        Due.sentence(21, "a candle that is OUT just so, 1 short of it and beyond it");
        endOf(59, all.toString(), 15);
        endOf(60, all.toString(), 15);
        endOf(57, all.toString(), 15);
        endOf(56, all.toString(), 14);
        Due.sentence(21, "TICK by 12: the last place burns in TICK 11, 23, 35 and 47, the first in 0, 12, 24, 36");
        endOf(56, "draught 11 3;", 47);
        endOf(57, "draught 11 3;", 48);
        endOf(60, "draught 11 3;", 48);
        endOf(60, "draught 0 3;", 48);
        endOf(12, "draught 11 3;", 12);
        endOf(11, "draught 11 3;", 11);
        endOf(13, "draught 0 1;", 12);
        endOf(15, "draught 0 1;", 13);
        endOf(16, "draught 0 1;", 14);
    }

    private static void wins(InchCandle x, int who, int price) {
        Due.is("wins(0, 0)", x.wins(0, 0), who);
        Due.is("wins(0, 1)", x.wins(0, 1), price);
    }

    private static void wins() {
        Due.sentence(22, "-9: nobody, PRICE 0: there are no BIDDERS");
        wins(Due.hall("lot 9 worth 99;"), -9, 0);
        Due.sentence(22, "-9: nobody, PRICE 0: none calls");
        wins(Due.hall("lot 9 worth 99;bidder 0 value 999 purse 4;late 0 value 999 purse 999;sniper 9 value 999 purse 999;"), -9, 0);
        Due.sentence(22, "who: BIDDER 0, and the last of 6");
        wins(Due.hall("lot 1 worth 99;bidder 0 value 99 purse 99;"), 0, 5);
        wins(Due.hall("lot 1 worth 99;" + "bidder 0 value 99 purse 99;".repeat(6)), 5, 30);
        Due.sentence(22, "whoever called last ahead of the flame going out: in the last TICK, too");
        wins(Due.hall("lot 11 worth 99;bidder 9 value 99 purse 99;blind 0 value 99 purse 99;"), 1, 10);
        wins(Due.hall("lot 10 worth 99;bidder 9 value 99 purse 99;bidder 9 value 99 purse 99;"), 1, 10);
    }

    private static void winsLimit() {
        InchCandle x = Due.hall("lot 60 worth 99;bidder 0 value 999 purse 50;bidder 0 value 999 purse 45;");
        Due.sentence(22, "with all PURSES as they are: the last CALL is LIMIT just so");
        wins(x, 0, 45);
        x.purse(1, 1, 50);
        wins(x, 1, 50);
        Due.sentence(22, "1 below it is not enough");
        x.purse(1, 1, 49);
        wins(x, 0, 45);
        Due.sentence(22, "one whom the PURSE was emptied is out of it");
        x.lot(1, 99);
        x.light(1);
        x.call(1, 49);
        x.snuff();
        wins(x, 0, 5);
        Due.sentence(22, "THE LOT is lit anew: CALLS aloud and TICKS gone don't count");
        x.light(0);
        x.call(1, 1);
        Due.is("refused with PURSE 0", x.now(3), 0);
        x.call(0, 40);
        x.ticks(30);
        wins(x, 0, 5);
        Due.is("HIGH", x.now(3), 40);
    }

    private static void patience() {
        Due.sentence(23, "the A (0 to 9), of several the least: 0");
        for (String kind : new String[] {"bidder", "leaper", "broker", "blind"}) {
            InchCandle x = Due.hall("lot 9 worth 99;" + kind + " 9 value 99 purse 99;");
            Due.is("patience(0, 0) of a " + kind, x.patience(0, 0), 0);
        }
        Due.sentence(23, "of several the least: of a late one alone never 0, as LEFT isn't 0");
        for (int wax : new int[] {1, 2, 9, 60}) {
            InchCandle x = Due.hall("lot " + wax + " worth 99;late 9 value 99 purse 99;");
            // A 1 calls in even TICKS if LEFT is 3 or less: in TICK 0 of WAX 1 and 2, TICK 6 of 9, TICK 58 of 60
            Due.is("patience(0, 0) of WAX " + wax, x.patience(0, 0), 1);
        }
        Due.sentence(23, "for the least PRICE: of a leaper the CALL is more with each A");
        InchCandle x = Due.hall("lot 9 worth 99;leaper 9 value 99 purse 18;");
        Due.is("wins(0, 1), 19 is above LIMIT", x.wins(0, 1), 0);
        Due.is("patience(0, 0)", x.patience(0, 0), 0);
        x.step(9);
        Due.is("patience(0, 0) of LIMIT 18 just so", x.patience(0, 0), 0);
        x.step(10);
        Due.is("patience(0, 0)", x.patience(0, 0), -3);
    }

    /** LEFT is 32 in TICK 0, 12 in TICK 5, 8 in 6, then 7, 6, 5, and 4 in TICK 10, the last. */
    private static InchCandle nine() {
        return Due.hall("lot 32 worth 99;bidder 0 value 999 purse 15;late 0 value 999 purse 19;"
            + "draught 0 3;draught 1 3;draught 2 3;draught 3 3;draught 4 3;draught 5 3;draught 10 3;");
    }

    private static void patienceNine() {
        Due.sentence(23, "the A (0 to 9): 9");
        InchCandle x = nine();
        Due.is("end(0)", x.end(0), 11);
        // the other calls 5 in TICK 0, and 15 in the TICK behind a 10: only one that calls just in TICK 10 gets it;
        // A 4 calls in TICK 5 already, A 1 not even in TICK 10
        Due.is("patience(1, 0)", x.patience(1, 0), 9);
        Due.sentence(23, "for the least PRICE, though one with a lesser A gets it too");
        x.purse(1, 1, 20);
        x.mind(1, 1, 4);
        Due.is("wins(0, 0)", x.wins(0, 0), 1);
        Due.is("wins(0, 1)", x.wins(0, 1), 20);
        Due.is("patience(1, 0)", x.patience(1, 0), 9);
        Due.sentence(23, "A stays as it is");
        Due.is("bidderOf(1, 1)", x.bidderOf(1, 1), 4);
        x.mind(1, 1, 9);
        Due.is("wins(0, 1)", x.wins(0, 1), 10);
    }

    private static void patienceNone() {
        Due.sentence(23, "NONE: with none that one gets it: LIMIT is too little");
        InchCandle x = Due.hall("lot 9 worth 99;bidder 0 value 99 purse 4;bidder 0 value 99 purse 99;");
        Due.is("patience(0, 0)", x.patience(0, 0), -3);
        Due.sentence(23, "NONE: another one always calls behind");
        InchCandle y = Due.hall("lot 1 worth 99;bidder 0 value 99 purse 99;bidder 0 value 99 purse 99;");
        Due.is("patience(0, 0)", y.patience(0, 0), -3);
        Due.is("patience(1, 0)", y.patience(1, 0), 0);
        Due.sentence(23, "NONE: a sniper alone, HIGH is never above 0");
        InchCandle z = Due.hall("lot 9 worth 99;sniper 9 value 99 purse 99;");
        Due.is("patience(0, 0)", z.patience(0, 0), -3);
    }

    private static void gust() {
        Due.sentence(24, "of several the least: 0, the one that is there");
        InchCandle x = Due.hall("lot 9 worth 99;bidder 0 value 99 purse 99;");
        Due.is("gust(0, 0)", x.gust(0, 0), 0);
        Due.sentence(24, "for the least PRICE, though a lesser DRAUGHT lets that one get it too");
        InchCandle y = Due.hall("lot 4 worth 99;bidder 0 value 99 purse 99;bidder 1 value 99 purse 99;");
        Due.is("wins(0, 0) as it is", y.wins(0, 0), 0);
        Due.is("wins(0, 1) as it is", y.wins(0, 1), 25);
        // 2 in place 0: TICK 0 has 5 and 10, TICK 1 15, and it is OUT
        Due.is("gust(0, 0)", y.gust(0, 0), 2);
        Due.sentence(24, "the greatest DRAUGHT of a place, 3");
        Due.is("gust(1, 0)", y.gust(1, 0), 3);
        Due.sentence(24, "the DRAUGHTS stay as they are");
        for (int place = 0; place < 12; place++) {
            Due.is("draught(" + place + ", 0)", y.draught(place, 0), 0);
        }
    }

    /** LEFT is 4 in TICK 11; in TICK 12 the late one calls, whose 5 the blind one can't top. */
    private static InchCandle lastPlace() {
        StringBuilder text = new StringBuilder("lot 48 worth 99;late 3 value 99 purse 99;blind 0 value 99 purse 5;");
        for (int place = 0; place < 11; place++) {
            text.append("draught").append(place).append(" 3;");
        }
        return Due.hall(text.toString());
    }

    private static void gustLast() {
        Due.sentence(24, "10 times its place 0 to 11, and 0 to 3: 113");
        InchCandle x = lastPlace();
        Due.is("wins(0, 0)", x.wins(0, 0), 0);
        Due.is("gust(1, 0)", x.gust(1, 0), 113);
        Due.is("gust(0, 0)", x.gust(0, 0), 0);
        Due.sentence(24, "in place of what is there (that one too): any place's own counts");
        x.draught(11, 3);
        Due.is("wins(0, 0)", x.wins(0, 0), 1);
        Due.is("gust(1, 0)", x.gust(1, 0), 3);
        Due.sentence(24, "the first place that brings it, of several for the same PRICE");
        x.draught(11, 2);
        Due.is("gust(1, 0) with LEFT 4 of 3", x.gust(1, 0), 113);
        x.trim(0, 0, 47);
        // LEFT is 3 in TICK 11 and 3 burn: it is there as it is
        Due.is("gust(1, 0) with LEFT 3 of 3", x.gust(1, 0), 3);
    }

    private static void gustNone() {
        Due.sentence(24, "NONE: LIMIT is too little");
        InchCandle x = Due.hall("lot 9 worth 99;bidder 0 value 99 purse 4;bidder 0 value 99 purse 99;");
        Due.is("gust(0, 0)", x.gust(0, 0), -3);
        Due.is("gust(1, 0)", x.gust(1, 0), 0);
        Due.sentence(24, "NONE: with none of the 48");
        InchCandle y = Due.hall("lot 1 worth 99;bidder 0 value 99 purse 99;bidder 0 value 99 purse 99;");
        Due.is("gust(0, 0)", y.gust(0, 0), -3);
    }

    private static void wax(InchCandle x, int wax, int price) {
        Due.is("wax(0, 0)", x.wax(0, 0), wax);
        Due.is("wax(0, 1)", x.wax(0, 1), price);
    }

    private static void wax() {
        InchCandle x = Due.hall("lot 1 worth 99;bidder 0 value 999 purse 9999;bidder 0 value 999 purse 9999;");
        Due.sentence(25, "BEST WAX (1 to 60): 60");
        wax(x, 60, 600);
        Due.sentence(25, "whatever WAX the LOT has, and that stays");
        x.trim(0, 0, 60);
        wax(x, 60, 600);
        Due.is("lotOf(0, 0)", x.lotOf(0, 0), 60);
        Due.sentence(25, "BEST WAX: 59, as LIMIT is so much just so");
        x.purse(0, 1, 590);
        x.purse(1, 1, 590);
        wax(x, 59, 590);
        Due.sentence(25, "of several the least: none calls behind");
        x.purse(0, 1, 32);
        x.purse(1, 1, 32);
        wax(x, 3, 30);
        x.purse(0, 1, 35);
        wax(x, 4, 35);
        Due.sentence(25, "of several the least: what is burnt beyond WAX");
        x.draught(0, 3);
        // TICK 0 has 4 WAX, so that it is the fourth TICK from 7 on
        wax(x, 7, 35);
    }

    private static void waxEdges() {
        Due.sentence(25, "BEST WAX (1 to 60): 1, all bring the same");
        InchCandle x = Due.hall("lot 60 worth 99;bidder 0 value 99 purse 99;");
        wax(x, 1, 5);
        Due.sentence(25, "1 with PRICE 0: nobody calls, or there is nobody");
        x.purse(0, 1, 4);
        wax(x, 1, 0);
        wax(Due.hall("lot 60 worth 99;"), 1, 0);
        Due.sentence(25, "1, as more brings less");
        // with WAX 1 to 3 the late one's 5 is ahead of the leaper's 24; with more that one has 19 and keeps it
        InchCandle y = Due.hall("lot 60 worth 99;late 1 value 99 purse 5;leaper 9 value 99 purse 24;");
        Due.is("wins(0, 1)", y.wins(0, 1), 19);
        wax(y, 1, 24);
        Due.sentence(25, "the greatest, not the last that is greater than the one ahead");
        InchCandle z = Due.hall("lot 60 worth 99;bidder 9 value 99 purse 5;late 1 value 99 purse 10;leaper 9 value 99 purse 24;");
        // WAX 1 to 3: 5, 10; from 4 on: 5, 24
        wax(z, 4, 24);
    }

    private static void silent() {
        Due.sentence(26, "of several the least");
        InchCandle x = Due.hall("lot 1 worth 99;" + "bidder 0 value 99 purse 99;".repeat(3));
        Due.is("silent(0)", x.silent(0), 0);
        Due.sentence(26, "the last one of 6");
        InchCandle y = Due.hall("lot 1 worth 99;" + "bidder 0 value 99 purse 99;".repeat(5) + "leaper 9 value 99 purse 99;");
        // 5 times 5 and 19: 44; without one of the first 39, without the last 25
        Due.is("wins(0, 1)", y.wins(0, 1), 44);
        Due.is("silent(0)", y.silent(0), 5);
        Due.sentence(26, "any, calling or not: one that never calls");
        InchCandle z = Due.hall("lot 1 worth 99;bidder 0 value 99 purse 99;bidder 0 value 0 purse 0;");
        Due.is("silent(0)", z.silent(0), 1);
        Due.sentence(26, "the PRICE may be the greater without one, too");
        InchCandle u = Due.hall("lot 1 worth 99;bidder 0 value 99 purse 5;leaper 0 value 99 purse 12;");
        // 5 as it is, as 15 is above LIMIT; 10 without the first, 5 without the second
        Due.is("wins(0, 1)", u.wins(0, 1), 5);
        Due.is("silent(0)", u.silent(0), 1);
        u.purse(0, 1, 4);
        Due.is("silent(0): nobody without the second, 10 without the first", u.silent(0), 0);
        Due.sentence(26, "sold to somebody, whomever: not only to the one who gets it now");
        InchCandle w = Due.hall("lot 1 worth 99;bidder 0 value 99 purse 99;bidder 0 value 99 purse 99;");
        Due.is("silent(0)", w.silent(0), 0);
    }

    private static void silentNone() {
        Due.sentence(26, "NONE: there are no BIDDERS");
        Due.is("silent(0)", Due.hall("lot 9 worth 99;").silent(0), -3);
        Due.sentence(26, "NONE: the only one that calls, and there is none but that one");
        InchCandle x = Due.hall("lot 9 worth 99;bidder 0 value 99 purse 99;");
        Due.is("silent(0)", x.silent(0), -3);
        Due.sentence(26, "NONE: none calls anyway");
        Due.is("silent(0)", Due.hall("lot 9 worth 99;" + "bidder 0 value 99 purse 4;".repeat(6)).silent(0), -3);
        Due.sentence(26, "BAD ahead of NONE");
        Due.is("silent(1)", x.silent(1), -1);
        Due.is("silent(0) without LOTS and BIDDERS", new InchCandle().silent(0), -1);
    }

    private static void order(InchCandle x, int sum, int... lots) {
        Due.is("order(0)", x.order(0), sum);
        for (int i = 0; i < 5; i++) {
            Due.is("order(" + (10 + i) + ")", x.order(10 + i), i < lots.length ? lots[i] : -3);
        }
    }

    private static void orderWhat() {
        InchCandle x = Due.hall("lot 1 worth 99;".repeat(5) + "bidder 0 value 99 purse 99;");
        Due.sentence(27, "BAD: another what (i 0 to 4), with 5 LOTS");
        for (int v : new int[] {MIN, -1, 1, 2, 8, 9, 15, 16, 100, MAX}) {
            Due.is("order(" + v + ")", x.order(v), -1);
        }
        Due.is("order(0)", x.order(0), 25);
        Due.is("order(10)", x.order(10), 0);
        Due.is("order(14)", x.order(14), 4);
        Due.sentence(27, "BAD ahead of NONE: another what, and there is no LOT to be sold");
        for (int v : new int[] {MIN, -1, 1, 9, 15, MAX}) {
            Due.is("order(" + v + ")", new InchCandle().order(v), -1);
        }
    }

    private static void orderNone() {
        Due.sentence(27, "NONE: there is no LOT to be sold, as there are none");
        order(new InchCandle(), -3);
        Due.sentence(27, "NONE: there is no LOT to be sold, as all are");
        InchCandle x = Due.hall("lot 1 worth 99;".repeat(3) + "bidder 0 value 99 purse 99;");
        for (int lot = 0; lot < 3; lot++) {
            x.light(lot);
            x.ticks(1);
        }
        order(x, -3);
        Due.sentence(27, "NONE: no such one, 1 beyond the last, and LOTS that are sold are left out");
        x.back(1);
        order(x, 5, 1);
        x.back(2);
        order(x, 10, 1, 2);
        x.back(0);
        order(x, 15, 0, 1, 2);
        Due.sentence(27, "a sum of 0 is a sum: all are sold to nobody");
        x.purse(0, 1, 4);
        order(x, 0, 0, 1, 2);
    }

    private static void orderOfSeveral() {
        Due.sentence(27, "of several the first by LOTS: all orders of 5 bring the same");
        InchCandle x = Due.hall("lot 1 worth 99;".repeat(5) + "bidder 0 value 99 purse 25;");
        order(x, 25, 0, 1, 2, 3, 4);
        Due.sentence(27, "each PURSE less by what was paid: just enough, and 1 less");
        x.purse(0, 1, 24);
        order(x, 20, 0, 1, 2, 3, 4);
        x.purse(0, 1, 5);
        order(x, 5, 0, 1, 2, 3, 4);
        Due.sentence(27, "of several the first by LOTS: only what comes first counts");
        InchCandle y = Due.hall("lot 1 worth 5;lot 1 worth 5;lot 1 worth 99;bidder 0 value 100 purse 5;bidder 0 value 99 purse 10;");
        // LOT 2 first: 5 and 10, then 5 of the first for LOT 0 or 1; else 5 of the first, and 5 of the second for LOT 2
        order(y, 15, 2, 0, 1);
    }

    private static void orderPurses() {
        Due.sentence(27, "the row with the greatest sum of PRICES: the last of two rows");
        InchCandle x = Due.hall("lot 1 worth 5;lot 1 worth 99;bidder 0 value 100 purse 5;bidder 0 value 100 purse 10;");
        // LOT 0 first: 5 by the first, 5 by the second; LOT 1 first: 5, 10 by the second, 5 by the first
        order(x, 15, 1, 0);
        Due.sentence(27, "the row with the greatest sum of PRICES: both bring the same");
        x.purse(0, 1, 10);
        order(x, 15, 0, 1);
        Due.sentence(27, "the row with the greatest sum of PRICES: the last of 120 rows");
        InchCandle y = Due.hall("lot 3 worth 31;lot 4 worth 17;lot 6 worth 24;lot 5 worth 67;lot 2 worth 62;"
            + "late 2 value 68 purse 32;leaper 4 value 46 purse 29;bidder 7 value 57 purse 35;");
        order(y, 77, 4, 3, 2, 1, 0);
        Due.is("sold in that row", soldBy(y, 4, 3, 2, 1, 0), 77);
        Due.sentence(27, "PURSES stay as they are");
        Due.is("owed(1)", x.owed(1), 20);
    }

    private static int soldBy(InchCandle x, int... lots) {
        for (int lot : lots) {
            x.light(lot);
            x.ticks(60);
        }
        return x.owed(0);
    }

    private static void orderTheLot() {
        Due.sentence(27, "THE LOT too, as if it were not lit: its HIGH, HOLDER and TICKS don't count");
        InchCandle x = Due.hall("lot 9 worth 99;lot 9 worth 99;bidder 0 value 99 purse 50;bidder 9 value 0 purse 9999;");
        x.light(1);
        x.ticks(3);
        x.call(1, 9999);
        order(x, 10, 0, 1);
        Due.sentence(27, "THE LOT stays as it is");
        Due.is("now(3)", x.now(3), 9999);
        Due.is("now(1)", x.now(1), 3);
        Due.sentence(27, "THE LOT alone");
        x.snuff();
        x.light(0);
        order(x, 5, 0);
    }

    private static void most() {
        InchCandle x = Due.hall("lot 9 worth 50;lot 9 worth 50;");
        Due.sentence(28, "NONE: there are no BIDDERS");
        Due.is("most(0)", x.most(0), -3);
        Due.is("most(1)", x.most(1), -3);
        Due.sentence(28, "BAD ahead of NONE");
        for (int lot : new int[] {MIN, -1, 2, 5, MAX}) {
            Due.is("most(" + lot + ")", x.most(lot), -1);
        }
        Due.sentence(28, "one is the one, with LIMIT 0 too");
        x.bidder(0, 0, 0, 0);
        Due.is("most(0)", x.most(0), 0);
        Due.sentence(28, "of several the least");
        x.bidder(0, 0, 0, 9999);
        x.bidder(0, 0, 999, 0);
        Due.is("most(0) of 0, 0, 0", x.most(0), 0);
        x.bidder(0, 0, 41, 99);
        x.bidder(0, 0, 40, 99);
        Due.is("most(0), 20 and 20 by the cut", x.most(0), 3);
        Due.sentence(28, "the greatest, of a broker 9 by 10, and the last of 6");
        x.bidder(4, 0, 46, 99);
        Due.is("most(0), 20 and 20", x.most(0), 3);
        x.purse(5, 0, 48);
        Due.is("most(0), 20 and 21", x.most(0), 5);
        Due.sentence(28, "sold or not");
        x.light(0);
        x.snuff();
        x.light(1);
        Due.is("most(0), sold", x.most(0), 5);
        Due.is("most(1), THE LOT", x.most(1), 5);
        Due.is("most(2)", x.most(2), -1);
    }

    private static void owed() {
        InchCandle x = Due.hall("lot 9 worth 50;lot 9 worth 50;lot 9 worth 50;bidder 0 value 0 purse 50;bidder 0 value 0 purse 7;");
        Due.sentence(29, "BAD: another what");
        Due.range("owed(v)", x::owed, 0, 2, -1);
        Due.sentence(29, "nothing is sold: 0");
        Due.is("owed(0)", x.owed(0), 0);
        Due.is("owed(1)", x.owed(1), 57);
        Due.is("owed(2)", x.owed(2), 0);
        Due.sentence(29, "THE LOT with a HOLDER is not sold");
        x.light(0);
        x.call(0, 9);
        Due.is("owed(0)", x.owed(0), 0);
        Due.is("owed(2)", x.owed(2), 0);
        Due.sentence(29, "sold to somebody, to nobody, and back again");
        x.snuff();
        x.light(1);
        x.snuff();
        Due.is("owed(0)", x.owed(0), 9);
        Due.is("owed(1)", x.owed(1), 48);
        Due.is("owed(2)", x.owed(2), 1);
        x.back(1);
        x.back(0);
        Due.is("owed(0)", x.owed(0), 0);
        Due.is("owed(1)", x.owed(1), 57);
        Due.is("owed(2)", x.owed(2), 0);
    }

    private static void owedMost() {
        InchCandle x = new InchCandle();
        for (int i = 0; i < 6; i++) {
            x.lot(1, 1);
            x.bidder(0, 0, 0, 9999);
        }
        Due.sentence(29, "all PURSES together, 6 of 9999");
        Due.is("owed(1)", x.owed(1), 59994);
        Due.sentence(29, "the sum of 5 PRICES of 9999");
        for (int lot = 0; lot < 5; lot++) {
            x.light(lot);
            x.call(0, 9999);
            x.snuff();
            x.purse(0, 1, 9999);
        }
        Due.is("owed(0)", x.owed(0), 49995);
        Due.sentence(29, "all 5 sold to nobody");
        for (int lot = 0; lot < 5; lot++) {
            x.back(lot);
            x.light(lot);
            x.snuff();
        }
        Due.is("owed(2)", x.owed(2), 5);
        Due.is("owed(0)", x.owed(0), 0);
    }

    private static void seed() {
        InchCandle x = new InchCandle();
        Due.sentence(30, "z is any int: what it was, below 0 too");
        int was = 1;
        for (int v : new int[] {0, -1, MIN, MAX, -4, 1}) {
            Due.is("seed(" + v + ")", x.seed(v), was);
            was = v;
        }
    }

    private static void draw() {
        InchCandle x = new InchCandle();
        Due.sentence(31, "BAD: place is 0 to 11");
        Due.range("draw(v)", x::draw, 0, 11, -1);
        Due.sentence(31, "with BAD z stays");
        x.seed(1);
        for (int place : new int[] {-1, 12, MIN, MAX}) {
            Due.is("draw(" + place + ")", x.draw(place), -1);
        }
        Due.is("seed(1)", x.seed(1), 1);
        Due.sentence(31, "the DRAUGHT then: of the first and the last place, the others stay");
        for (int place = 0; place < 12; place++) {
            x.draught(place, 1);
        }
        Due.is("draw(0)", x.draw(0), 2);
        Due.is("draw(11)", x.draw(11), 2);
        Due.is("seed(1)", x.seed(1), -1770082073);
        for (int place = 0; place < 12; place++) {
            Due.is("draught(" + place + ", 0)", x.draught(place, 0), place == 0 || place == 11 ? 2 : 1);
        }
    }

    private static void drawWraps() {
        Due.sentence(31, "z wraps as an int, and 16 bits go out of it as of one without a sign");
        InchCandle x = new InchCandle();
        for (int v : new int[] {0, -1, 2, 7, MIN, MIN + 1, MAX, MAX - 1, 0x7fff0000, 0x12345678, -1770082073}) {
            x.seed(v);
            long z = ((long) v * 1103515245L + 12345L) & 0xffffffffL;
            Due.is("draw(5) of z " + v, x.draw(5), z / 65536 % 4);
            Due.is("seed(0)", x.seed(0), (int) z);
        }
        Due.sentence(31, "a DRAUGHT of 0, 1, 2 and 3");
        boolean[] seen = new boolean[4];
        for (int i = 0; i < 40; i++) {
            int v = x.draw(3);
            if (v >= 0 && v < 4) {
                seen[v] = true;
            }
        }
        for (int v = 0; v < 4; v++) {
            Due.yes("a DRAUGHT of " + v, seen[v]);
        }
    }
}
