/** Promises 21 to 31: what would be, by hand; CrossTest compares many halls with a plain model. */
public final class TrialsTest {
    public static void main(String[] args) {
        endsAndWins();
        refusals();
        patiences();
        gusts();
        waxes();
        silents();
        orders();
        mosts();
        owed();
        drawn();
        Due.end("TrialsTest");
    }

    private static void endsAndWins() {
        InchCandle x = Due.hall("lot 10 worth 50;lot 60 worth 10;lot 1 worth 1;"
            + "bidder 0 value 40 purse 99;bidder 0 value 40 purse 99;draught 1 3;");
        // 10 is burnt by 1, 4, 1, 1, 1, 1, 1; 60 by 15 in twelve TICKS
        Due.is("end(0)", x.end(0), 7);
        Due.is("end(1)", x.end(1), 48);
        Due.is("end(2)", x.end(2), 1);
        // LIMIT 20: 5 and 10, then 15 and 20
        Due.is("wins(0, 0)", x.wins(0, 0), 1);
        Due.is("wins(0, 1)", x.wins(0, 1), 20);
        Due.is("wins(1, 0), LIMIT 4", x.wins(1, 0), -9);
        Due.is("wins(1, 1)", x.wins(1, 1), 0);
        x.step(2);
        Due.is("wins(1, 0)", x.wins(1, 0), 1);
        Due.is("wins(1, 1)", x.wins(1, 1), 4);
        x.step(5);
        x.light(0);
        x.ticks(1);
        Due.is("end(0) of THE LOT, lit anew", x.end(0), 7);
        Due.is("wins(0, 1)", x.wins(0, 1), 20);
        Due.is("TICK stays", x.now(1), 1);
        Due.is("HIGH stays", x.now(3), 10);
        Due.is("PURSE stays", x.bidderOf(1, 3), 99);
        x.purse(1, 1, 9);
        Due.is("wins(0, 0) with PURSES as they are", x.wins(0, 0), 0);
        Due.is("wins(0, 1)", x.wins(0, 1), 5);
        Due.is("LOTS unsold", x.many(2), 0);
    }

    private static void refusals() {
        InchCandle x = Due.hall("lot 9 worth 50;lot 9 worth 50;bidder 0 value 40 purse 99;");
        x.light(1);
        x.snuff();
        for (int lot = -1; lot <= 2; lot++) {
            if (lot != 0) {
                Due.is("end", x.end(lot), -1);
                Due.is("wins", x.wins(lot, 0), -1);
                Due.is("patience", x.patience(0, lot), -1);
                Due.is("gust", x.gust(0, lot), -1);
                Due.is("wax", x.wax(lot, 0), -1);
                Due.is("silent", x.silent(lot), -1);
                Due.is("prove", x.prove(lot), -1);
                Due.is("judge", x.judge(lot), -1);
            }
        }
        Due.is("wins(0, 2)", x.wins(0, 2), -1);
        Due.is("wins(0, -1)", x.wins(0, -1), -1);
        Due.is("wax(0, 2)", x.wax(0, 2), -1);
        Due.is("wax(0, -1)", x.wax(0, -1), -1);
        for (int bidder = -1; bidder <= 1; bidder += 2) {
            Due.is("patience", x.patience(bidder, 0), -1);
            Due.is("gust", x.gust(bidder, 0), -1);
        }
        Due.is("end(0)", x.end(0), 9);
    }

    private static void patiences() {
        InchCandle x = Due.hall("lot 6 worth 99;bidder 0 value 99 purse 60;bidder 9 value 9 purse 6;");
        Due.is("patience(0, 0): 5 with each A", x.patience(0, 0), 0);
        Due.is("patience(1, 0): 10 is above LIMIT", x.patience(1, 0), -3);
        x.purse(1, 0, 99);
        x.purse(1, 1, 30);
        x.mind(1, 0, 0);
        // with A 0 every TICK has two CALLS, up to 30 by the second and 35 by the first in TICK 3
        Due.is("wins(0, 1)", x.wins(0, 1), 35);
        x.purse(1, 1, 10);
        // TICK 0 has 5 and 10; the first then calls 15 in TICK A + 1, at 15 with each A to 4
        Due.is("patience(0, 0), the least A of those", x.patience(0, 0), 0);
        Due.is("A stays", x.bidderOf(0, 1), 0);
        x.purse(0, 1, 10);
        Due.is("patience(0, 0): 15 is above LIMIT", x.patience(0, 0), -3);
        // the second one has 10 with each A
        Due.is("patience(1, 0)", x.patience(1, 0), 0);
        leastAtLast();
        blindPatience();
    }

    private static void leastAtLast() {
        InchCandle x = Due.hall("lot 7 worth 99;bidder 0 value 99 purse 99;bidder 2 value 99 purse 99;");
        // the second calls in TICK 0 (10), 3 and 6; of the first's A those that call last but never
        // with the second once more: none, as TICK 6 is the second's if that one isn't HOLDER;
        // with A 2 and 5 the first calls in TICK 3 or 6 ahead of it, so that the second is last
        Due.is("patience(0, 0)", x.patience(0, 0), -3);
        x.trim(0, 0, 6);
        // TICKS 0 to 5: A 1 calls in 2 and 4 (25), A 3 in 4 (15), A 4 in 5 (15), A 0 in 4 (35)
        Due.is("patience(0, 0)", x.patience(0, 0), 3);
        x.mind(0, 2, 0);
        // a leaper with A 3: 13, 18, then 31; with A 4: 14, 19, then 33; with A 1: 11, 16, 27, 32, 43
        Due.is("patience(0, 0)", x.patience(0, 0), 3);
    }

    private static void blindPatience() {
        InchCandle x = Due.hall("lot 6 worth 99;blind 7 value 99 purse 60;leaper 0 value 99 purse 60;");
        // the leaper calls 10 in TICK 0; in TICK 5 the blind one 15, and 25 the leaper
        Due.is("patience(0, 0)", x.patience(0, 0), -3);
        // with A 5 it would be 15, 20 and 35; with A 1 the leaper has only TICK 0, 2 and 4
        Due.is("patience(1, 0)", x.patience(1, 0), 0);
        x.purse(1, 0, 12);
        // LIMIT 11 lets the leaper call but once, the blind one is last whatever A is
        Due.is("patience(0, 0)", x.patience(0, 0), 0);
        Due.is("patience(1, 0)", x.patience(1, 0), -3);
    }

    private static void gusts() {
        InchCandle x = Due.hall("lot 4 worth 99;bidder 0 value 99 purse 99;bidder 1 value 99 purse 99;");
        // TICK 0: 5 and 10; 1: 15 by the first; 2: 20 by the second; 3: 25 by the first
        Due.is("wins(0, 0)", x.wins(0, 0), 0);
        Due.is("wins(0, 1)", x.wins(0, 1), 25);
        Due.is("gust(0, 0): TICK 0 and 1 alone", x.gust(0, 0), 2);
        Due.is("gust(1, 0): TICK 0 alone", x.gust(1, 0), 3);
        x.draught(0, 3);
        Due.is("gust(0, 0)", x.gust(0, 0), 2);
        Due.is("gust(1, 0): all others", x.gust(1, 0), 3);
        x.draught(0, 0);
        x.draught(1, 2);
        // OUT in TICK 1 as it is: 15 by the first, and 0 in place 0 is what is there
        Due.is("gust(0, 0)", x.gust(0, 0), 0);
        Due.is("DRAUGHT stays", x.draught(0, 0), 0);
        Due.is("DRAUGHT stays", x.draught(1, 0), 2);
        x.purse(0, 1, 4);
        Due.is("gust(0, 0)", x.gust(0, 0), -3);
        Due.is("gust(1, 0)", x.gust(1, 0), 0);
        latePlaces();
    }

    private static void latePlaces() {
        // 24 would burn in 24 TICKS; A 9 calls in TICK 0, 10 and 20 if LEFT is 27 or less
        InchCandle x = Due.hall("lot 24 worth 99;bidder 0 value 0 purse 0;late 1 value 99 purse 99;");
        // A 1 calls in even TICKS if LEFT is 3 or less: in TICK 22 LEFT is 2
        Due.is("wins(0, 0)", x.wins(0, 0), 1);
        Due.is("gust(1, 0)", x.gust(1, 0), 0);
        x.trim(0, 0, 23);
        x.draught(8, 3);
        // TICK 8 and 20 burn 4: LEFT is 3 in TICK 17, and 2 in TICK 18
        Due.is("gust(1, 0)", x.gust(1, 0), 0);
        x.mind(1, 5, 0);
        x.purse(1, 1, 4);
        Due.is("gust(1, 0)", x.gust(1, 0), -3);
        onlyOnePlace();
    }

    private static void onlyOnePlace() {
        // 13 TICKS: the late one (A 2) calls in TICK 9 or 12 if LEFT is 6 or less and that is a TICK
        InchCandle x = Due.hall("lot 13 worth 99;late 2 value 99 purse 99;bidder 0 value 99 purse 5;");
        // the other calls 5 in TICK 0; LEFT is 4 in TICK 9: 10 by the late one
        Due.is("wins(0, 0)", x.wins(0, 0), 0);
        Due.is("gust(1, 0): TICK 9 is not reached", x.gust(1, 0), -3);
        x.trim(0, 0, 10);
        // LEFT is 4 in TICK 6, 7 in TICK 3: with more burnt ahead it calls in TICK 3 too, and has it at 10
        Due.is("gust(0, 0)", x.gust(0, 0), 0);
        Due.is("gust(1, 0)", x.gust(1, 0), -3);
        x.trim(0, 0, 5);
        // LEFT is 5 in TICK 0: 5 by the late one, 10 is above the other's LIMIT
        Due.is("gust(1, 0)", x.gust(1, 0), -3);
        x.trim(0, 0, 7);
        // LEFT is 4 in TICK 3; burnt 7 ahead of TICK 3 needs two of 3, one place is not enough
        Due.is("gust(1, 0)", x.gust(1, 0), -3);
        x.trim(0, 0, 6);
        x.draught(1, 2);
        x.purse(1, 1, 10);
        // TICK 0: 5 and 10 (LEFT is 6); TICK 3 is reached with LEFT 1, but not with more burnt
        Due.is("wins(0, 0)", x.wins(0, 0), 0);
        Due.is("gust(0, 0)", x.gust(0, 0), 0);
        Due.is("gust(1, 0): 1 more in TICK 0", x.gust(1, 0), 1);
        x.draught(0, 1);
        Due.is("gust(0, 0): 1 less in TICK 0", x.gust(0, 0), 0);
        Due.is("gust(1, 0): the one that is there", x.gust(1, 0), 1);
        x.draught(1, 0);
        x.draught(0, 2);
        Due.is("gust(1, 0): 3 in TICK 0, but 2 in it and 1 in TICK 1 is more", x.gust(1, 0), 3);
    }

    private static void waxes() {
        InchCandle x = Due.hall("lot 9 worth 99;bidder 0 value 99 purse 32;bidder 1 value 99 purse 32;");
        // TICK 0: 5 and 10; 1: 15; 2: 20; 3: 25; 4: 30, that is with WAX 5
        Due.is("wax(0, 0)", x.wax(0, 0), 5);
        Due.is("wax(0, 1)", x.wax(0, 1), 30);
        Due.is("WAX stays", x.lotOf(0, 0), 9);
        x.draught(1, 1);
        Due.is("wax(0, 0): one more is burnt", x.wax(0, 0), 6);
        x.draught(1, 0);
        x.purse(0, 1, 0);
        x.purse(1, 1, 0);
        Due.is("wax(0, 0) of nobody", x.wax(0, 0), 1);
        Due.is("wax(0, 1) of nobody", x.wax(0, 1), 0);
        x.purse(0, 1, 5);
        x.mind(0, 5, 0);
        x.purse(1, 1, 10);
        x.mind(1, 0, 9);
        // one blind: 5 and 10 with WAX 1; with more the other is first with 5, and the blind one's LIMIT is 5
        Due.is("wax(0, 0)", x.wax(0, 0), 1);
        Due.is("wax(0, 1)", x.wax(0, 1), 10);
        x.mind(0, 0, 1);
        x.purse(0, 1, 99);
        x.purse(1, 1, 99);
        // TICK 0: 5 and 10; the first in TICK 2, 12, .. 52, the second in TICK 10, .. 50: 15, 20, .. 65
        Due.is("wax(0, 0)", x.wax(0, 0), 53);
        Due.is("wax(0, 1)", x.wax(0, 1), 65);
        x.purse(0, 0, 0);
        x.mind(1, 1, 2);
        x.draught(0, 3);
        Due.is("wax(0, 0) of one late", x.wax(0, 0), 1);
        Due.is("wax(0, 1) of one late", x.wax(0, 1), 5);
        atTheEnd();
    }

    private static void atTheEnd() {
        // a sniper with A 0 is never ready
        InchCandle x = Due.hall("lot 1 worth 99;sniper 0 value 99 purse 99;bidder 9 value 99 purse 99;bidder 8 value 99 purse 99;");
        // TICK 0: 5 and 10 by the last, the HOLDER in TICK 9; 10: 15; 18: 20; 20: 25; 27: 30; 30: 35; 36: 40;
        // 40: 45; 45: 50; 50: 55; 54: 60
        Due.is("wax(0, 0)", x.wax(0, 0), 55);
        Due.is("wax(0, 1)", x.wax(0, 1), 60);
        x.draught(0, 1);
        // 5 more are burnt ahead of TICK 54
        Due.is("wax(0, 0)", x.wax(0, 0), 60);
        x.draught(3, 1);
        // 5 more again: 60 is enough for TICK 50, of which 59 are burnt ahead
        Due.is("wax(0, 0)", x.wax(0, 0), 60);
        Due.is("wax(0, 1): TICK 54 is not reached", x.wax(0, 1), 55);
    }

    private static void silents() {
        InchCandle x = Due.hall("lot 1 worth 99;bidder 0 value 99 purse 99;leaper 3 value 99 purse 99;blind 0 value 3 purse 3;");
        // 5 and 18: 13 without the first, 5 without the second, 18 without the third
        Due.is("wins(0, 1)", x.wins(0, 1), 18);
        Due.is("silent(0)", x.silent(0), 1);
        x.purse(1, 0, 0);
        // 5, nobody without the first, 5 without the second or the third
        Due.is("silent(0)", x.silent(0), 1);
        x.purse(0, 1, 4);
        Due.is("silent(0)", x.silent(0), -3);
        x.step(1);
        // 1 by the first, 2 by the blind one; without the first 1, without the blind one 1
        Due.is("wins(0, 1)", x.wins(0, 1), 2);
        Due.is("silent(0)", x.silent(0), 0);
        Due.is("VALUE stays", x.bidderOf(0, 2), 99);
        InchCandle alone = Due.hall("lot 9 worth 99;bidder 0 value 99 purse 99;");
        Due.is("silent(0) of the only one", alone.silent(0), -3);
        InchCandle none = Due.hall("lot 9 worth 99;");
        Due.is("silent(0) of none", none.silent(0), -3);
    }

    private static void orders() {
        InchCandle x = Due.hall("lot 1 worth 99;lot 1 worth 50;bidder 0 value 10 purse 10;leaper 1 value 99 purse 13;");
        // LIMITS are 9 and 13, and 5 and 13: 5 by the first, 16 is above 13; each LOT 5, either way
        Due.is("order(0)", x.order(0), 10);
        Due.is("order(10), the first by LOTS", x.order(10), 0);
        Due.is("order(11)", x.order(11), 1);
        Due.is("order(12)", x.order(12), -3);
        Due.is("order(14)", x.order(14), -3);
        Due.is("order(15)", x.order(15), -1);
        Due.is("order(9)", x.order(9), -1);
        Due.is("order(1)", x.order(1), -1);
        Due.is("order(-1)", x.order(-1), -1);
        x.light(1);
        x.ticks(0);
        Due.is("order(11): THE LOT too", x.order(11), 1);
        Due.is("order(0), THE LOT as if not lit", x.order(0), 10);
        x.snuff();
        Due.is("order(0) of one LOT", x.order(0), 5);
        Due.is("order(10)", x.order(10), 0);
        Due.is("order(11)", x.order(11), -3);
        x.light(0);
        x.snuff();
        Due.is("order(0) of none", x.order(0), -3);
        Due.is("order(10) of none", x.order(10), -3);
        Due.is("order(15) of none", x.order(15), -1);
        secondFirst();
        ofThree();
        lastRowOfAll();
    }

    private static void lastRowOfAll() {
        InchCandle x = Due.hall("lot 3 worth 31;lot 4 worth 17;lot 6 worth 24;lot 5 worth 67;lot 2 worth 62;"
            + "late 2 value 68 purse 32;leaper 4 value 46 purse 29;bidder 7 value 57 purse 35;");
        Due.is("order(0)", x.order(0), 77);
        for (int i = 0; i < 5; i++) {
            Due.is("order(" + (10 + i) + ")", x.order(10 + i), 4 - i);
        }
        x.keep();
        Due.is("sold in that order", soldBy(x, 4, 3, 2, 1, 0), 77);
        x.again();
        Due.yes("sold by numbers", soldBy(x, 0, 1, 2, 3, 4) < 77);
        x.again();
        Due.yes("sold but for the last", soldBy(x, 4, 3, 2, 0, 1) < 77);
    }

    private static int soldBy(InchCandle x, int... order) {
        for (int lot : order) {
            x.light(lot);
            x.ticks(60);
        }
        return x.owed(0);
    }

    private static void secondFirst() {
        // LIMITS for LOT 0: 5 of both; for LOT 1: 5 and 14 (PURSE)
        InchCandle x = Due.hall("lot 1 worth 5;lot 1 worth 99;leaper 0 value 999 purse 14;bidder 0 value 100 purse 8;");
        // LOT 1 first: 10 by the leaper, 4 are left, 5 by the other for LOT 0
        // LOT 0 first: 5 by the other, 3 are left: 10 by the leaper: 15 either way
        Due.is("order(0)", x.order(0), 15);
        Due.is("order(10)", x.order(10), 0);
        x.trim(0, 1, 99);
        x.trim(1, 1, 10);
        x.purse(1, 0, 90);
        x.purse(0, 0, 120);
        x.purse(0, 1, 19);
        x.step(5);
        // LOT 0 (LIMIT 19 and 8): 10 by the leaper, 9 are left; LOT 1 (LIMIT 12 and 8): 10 is above 9, 5 by the other
        Due.is("order(0)", x.order(0), 15);
        x.purse(1, 1, 15);
        x.purse(1, 0, 999);
        // LOT 0 first: 10 and 15 by the other, 0 left; LOT 1 (LIMIT 12): 10 by the leaper: 25
        // LOT 1 first: 10 and 15 by the other; LOT 0: 10 by the leaper: 25
        Due.is("order(0)", x.order(0), 25);
        Due.is("order(10)", x.order(10), 0);
        x.trim(0, 0, 2);
        x.purse(0, 1, 25);
        // LOT 0 first: 10, 15 and 25 by the leaper, 0 left; LOT 1: 5 by the other: 30
        // LOT 1 first: 10 and 15 by the other; LOT 0: 10 by the leaper: 25
        Due.is("order(0)", x.order(0), 30);
        Due.is("order(10)", x.order(10), 0);
        x.trim(0, 0, 1);
        x.trim(1, 0, 2);
        x.trim(1, 1, 30);
        // now LOT 0 has but one TICK: LOT 1 first: 10, 15, 25; LOT 0: 5
        Due.is("order(0)", x.order(0), 30);
        Due.is("order(10)", x.order(10), 1);
        Due.is("order(11)", x.order(11), 0);
        Due.is("PURSES stay", x.owed(1), 40);
    }

    private static void ofThree() {
        InchCandle x = Due.hall("lot 1 worth 1;lot 2 worth 99;lot 1 worth 99;bidder 0 value 99 purse 5;bidder 0 value 99 purse 14;blind 0 value 14 purse 14;");
        // LOT 2: 5 and 10 by the second, who has 4 left; LOT 1: 5, and 10 by the blind one
        // LOT 1 first: 5 and 10 by the second; LOT 2: 5, and 10 by the blind one: 20 as well
        Due.is("order(0)", x.order(0), 20);
        Due.is("order(10)", x.order(10), 0);
        Due.is("order(11)", x.order(11), 1);
        Due.is("order(12)", x.order(12), 2);
        Due.is("order(13)", x.order(13), -3);
    }

    private static void mosts() {
        InchCandle x = Due.hall("lot 5 worth 50;lot 5 worth 99;");
        Due.is("most(0) of none", x.most(0), -3);
        Due.is("most(2)", x.most(2), -1);
        Due.is("most(-1)", x.most(-1), -1);
        x.bidder(4, 0, 40, 99);
        x.bidder(0, 0, 38, 99);
        x.bidder(1, 0, 39, 99);
        Due.is("18, 19, 19", x.most(0), 1);
        Due.is("35, 37, 38", x.most(1), 2);
        x.purse(2, 1, 36);
        Due.is("35, 37, 36", x.most(1), 1);
        x.light(1);
        x.snuff();
        Due.is("most of one that is sold", x.most(1), 1);
        InchCandle y = Due.hall("lot 5 worth 50;bidder 0 value 0 purse 0;bidder 0 value 0 purse 0;");
        Due.is("0 and 0", y.most(0), 0);
    }

    private static void owed() {
        InchCandle x = Due.hall("lot 5 worth 50;lot 5 worth 50;lot 5 worth 50;lot 5 worth 50;"
            + "bidder 9 value 0 purse 9999;bidder 9 value 0 purse 50;");
        Due.is("owed(0)", x.owed(0), 0);
        Due.is("owed(1)", x.owed(1), 10049);
        Due.is("owed(2)", x.owed(2), 0);
        for (int lot = 0; lot < 3; lot++) {
            x.light(lot);
            if (lot != 1) {
                x.call(lot / 2, 10 + 5 * lot);
            }
            x.snuff();
        }
        x.light(3);
        x.call(0, 77);
        Due.is("owed(0), 10 and 20", x.owed(0), 30);
        Due.is("owed(1)", x.owed(1), 10019);
        Due.is("owed(2)", x.owed(2), 1);
        Due.is("owed(3)", x.owed(3), -1);
        Due.is("owed(-1)", x.owed(-1), -1);
        InchCandle full = new InchCandle();
        for (int i = 0; i < 6; i++) {
            full.lot(1, 1);
            full.bidder(0, 0, 0, 9999);
        }
        Due.is("owed(1)", full.owed(1), 59994);
        for (int lot = 0; lot < 5; lot++) {
            full.light(lot);
            full.call(lot, 9999);
            full.snuff();
        }
        Due.is("owed(0)", full.owed(0), 49995);
        Due.is("owed(1)", full.owed(1), 9999);
        Due.is("owed(2)", full.owed(2), 0);
    }

    private static void drawn() {
        InchCandle x = new InchCandle();
        int z = 1;
        for (int i = 0; i < 40; i++) {
            z = z * 1103515245 + 12345;
            Due.is("draw", x.draw(i % 12), (z >>> 16) % 4);
            Due.is("the DRAUGHT", x.draught(i % 12, 0), (z >>> 16) % 4);
        }
        Due.is("draw(12)", x.draw(12), -1);
        Due.is("draw(-1)", x.draw(-1), -1);
        Due.is("seed(-2147483648)", x.seed(Integer.MIN_VALUE), z);
        Due.is("seed(5)", x.seed(5), Integer.MIN_VALUE);
        Due.is("draw(3)", x.draw(3), ((5 * 1103515245 + 12345) >>> 16) % 4);
    }
}
