/** Promises 14 to 20: candles lit, TICKS, CALLS of each KIND, sales. */
public final class TicksTest {
    public static void main(String[] args) {
        lit();
        nowWithoutLot();
        bidderCalls();
        lateCalls();
        leaperCalls();
        sniperCalls();
        brokerCalls();
        blindCalls();
        limitsOfCalls();
        byNumbers();
        draughtsByTwelve();
        aloud();
        snuffed();
        backAgain();
        Due.end("TicksTest");
    }

    private static void lit() {
        InchCandle x = Due.hall("lot 9 worth 50; lot 3 worth 50; bidder 0 value 100 purse 100;");
        Due.is("light(2)", x.light(2), -1);
        Due.is("light(-1)", x.light(-1), -1);
        Due.is("light(1)", x.light(1), 1);
        Due.is("light(1)", x.light(1), -4);
        Due.is("light(0)", x.light(0), -4);
        Due.is("light(2), BAD ahead of STATE", x.light(2), -1);
        Due.is("ticks(0)", x.ticks(0), 0);
        now(x, 1, 0, 0, 0, -9, 3, 1);
        Due.is("ticks(-1)", x.ticks(-1), -1);
        Due.is("ticks(61)", x.ticks(61), -1);
        Due.is("ticks(1)", x.ticks(1), 1);
        now(x, 1, 1, 1, 5, 0, 2, 1);
        Due.is("ticks(60)", x.ticks(60), 2);
        now(x, -9, 0, 0, 0, -9, 0, 0);
        Due.is("ticks(60)", x.ticks(60), 0);
        Due.is("light(1), sold", x.light(1), -4);
        Due.is("lotOf(1, 2)", x.lotOf(1, 2), 1);
        Due.is("lotOf(1, 3)", x.lotOf(1, 3), 5);
        Due.is("lotOf(1, 4)", x.lotOf(1, 4), 0);
        Due.is("PURSE", x.bidderOf(0, 3), 95);
        Due.is("light(0)", x.light(0), 1);
        now(x, 0, 0, 0, 0, -9, 9, 1);
        Due.is("now(7)", x.now(7), -1);
        Due.is("now(-1)", x.now(-1), -1);
    }

    private static void now(InchCandle x, int... want) {
        for (int what = 0; what < want.length; what++) {
            Due.is("now(" + what + ")", x.now(what), want[what]);
        }
    }

    private static void nowWithoutLot() {
        InchCandle x = new InchCandle();
        now(x, -9, 0, 0, 0, -9, 0, 0);
        Due.is("now(7)", x.now(7), -1);
        Due.is("would(0)", x.would(0), -1);
        x.bidder(0, 0, 100, 100);
        x.lot(5, 50);
        Due.is("would(0)", x.would(0), 0);
        Due.is("ticks(60)", x.ticks(60), 0);
        Due.is("snuff()", x.snuff(), -4);
        Due.is("call(0, 5)", x.call(0, 5), -4);
        Due.is("call(0, 0)", x.call(0, 0), -1);
    }

    /** One bidder alone, with HIGH put to 1 by another one ahead of each TICK if rival. */
    private static void wouldBy(String bidder, int wax, String text, boolean rival, int... want) {
        InchCandle x = Due.hall("lot " + wax + " worth 99;" + bidder + "bidder 9 value 0 purse 9999;" + text);
        x.light(0);
        for (int tick = 0; tick < want.length; tick++) {
            if (rival) {
                x.call(1, x.now(3) + 1);
            }
            Due.is(bidder + " at tick " + tick, x.would(0), want[tick]);
            Due.is("ticks(1)", x.ticks(1), 1);
            Due.is("HIGH", rival ? x.now(3) : 0, rival && x.now(0) == 0 ? Math.max(want[tick], x.now(3)) : rival ? 0 : 0);
        }
    }

    private static void bidderCalls() {
        wouldBy("bidder 0 value 99 purse 99;", 5, "", false, 5, 0, 0);
        wouldBy("bidder 0 value 99 purse 99;", 5, "", true, 6, 12, 18, 24, 30);
        wouldBy("bidder 2 value 99 purse 99;", 8, "", true, 6, 0, 0, 14, 0, 0, 22, 0);
        wouldBy("bidder 2 value 99 purse 99;", 8, "step 20;", true, 21, 0, 0, 44, 0, 0, 67, 0);
    }

    private static void lateCalls() {
        // LEFT is 8, 7, 6, 5 ..: 6 at most from TICK 2 on, and the rest by 3 is 0 in TICK 3
        wouldBy("late 2 value 99 purse 99;", 8, "", true, 0, 0, 0, 9, 0, 0, 17, 0);
        wouldBy("late 2 value 99 purse 99;", 6, "", true, 6, 0, 0, 14, 0, 0);
        wouldBy("late 2 value 99 purse 99;", 7, "", true, 0, 0, 0, 9, 0, 0, 17);
        wouldBy("late 0 value 99 purse 99;", 2, "", true, 0, 0);
        wouldBy("late 1 value 99 purse 99;", 3, "", false, 5, 0, 0);
    }

    private static void leaperCalls() {
        wouldBy("leaper 0 value 99 purse 99;", 3, "", true, 11, 22, 33);
        wouldBy("leaper 2 value 99 purse 99;", 5, "step 7;", true, 17, 0, 0, 36, 0);
    }

    private static void sniperCalls() {
        wouldBy("sniper 2 value 99 purse 99;", 8, "", true, 0, 0, 0, 9, 0, 0, 17, 0);
        wouldBy("sniper 2 value 99 purse 99;", 8, "", false, 0, 0, 0, 0, 0, 0, 0, 0);
        wouldBy("sniper 2 value 99 purse 99;", 6, "", true, 6, 0, 0, 14, 0, 0);
        wouldBy("sniper 9 value 99 purse 99;", 28, "", true, 0, 0);
    }

    private static void brokerCalls() {
        wouldBy("broker 1 value 99 purse 99;", 4, "", true, 12, 0, 25, 0);
        // LIMIT is 9 by 10 of 12: 10
        wouldBy("broker 0 value 99 purse 12;", 2, "step 5;", false, 10, 0);
        wouldBy("broker 0 value 99 purse 11;", 2, "step 5;", false, 0, 0);
    }

    private static void blindCalls() {
        wouldBy("blind 9 value 99 purse 99;", 3, "", true, 0, 0, 8);
        wouldBy("blind 0 value 99 purse 99;", 3, "", false, 0, 0, 5);
        // LEFT is 7, then 5, then 1 (burns 4 there: more than is LEFT)
        wouldBy("blind 5 value 99 purse 99;", 7, "draught 0 1;draught 1 3;draught 2 3;", true, 0, 0, 8);
        wouldBy("blind 5 value 99 purse 99;", 6, "draught 0 1;draught 1 3;draught 2 3;", true, 0, 7);
    }

    private static void limitsOfCalls() {
        InchCandle x = Due.hall("lot 9 worth 50;bidder 0 value 20 purse 999;bidder 0 value 999 purse 10;");
        x.light(0);
        Due.is("ticks(1)", x.ticks(1), 1);
        Due.is("HIGH is LIMIT of the second", x.now(3), 10);
        Due.is("HOLDER", x.now(4), 1);
        Due.is("would(0)", x.would(0), 0);
        Due.is("would(1)", x.would(1), 0);
        x.purse(0, 0, 30);
        Due.is("would(0)", x.would(0), 15);
        x.purse(0, 0, 29);
        Due.is("would(0)", x.would(0), 0);
        x.step(4);
        Due.is("would(0)", x.would(0), 14);
        Due.is("would(2)", x.would(2), -1);
        Due.is("would(-1)", x.would(-1), -1);
    }

    private static void byNumbers() {
        InchCandle x = Due.hall("lot 3 worth 99;bidder 0 value 99 purse 99;sniper 9 value 99 purse 99;leaper 0 value 99 purse 99;");
        x.light(0);
        Due.is("would(1): HIGH is 0 as all is now", x.would(1), 0);
        Due.is("would(2)", x.would(2), 10);
        x.ticks(1);
        Due.is("5, 10, 20", x.now(3), 20);
        Due.is("HOLDER", x.now(4), 2);
        x.ticks(1);
        Due.is("25, none of A 9, 35", x.now(3), 35);
        Due.is("HOLDER", x.now(4), 2);
        Due.is("would(0)", x.would(0), 40);
        Due.is("would(2), the HOLDER", x.would(2), 0);
    }

    private static void draughtsByTwelve() {
        InchCandle x = Due.hall("lot 60 worth 9;draught 0 3;draught 11 2;draught 5 1;");
        x.light(0);
        int[] burns = {4, 1, 1, 1, 1, 2, 1, 1, 1, 1, 1, 3};
        int burnt = 0;
        for (int tick = 0; tick < 60; tick++) {
            if (x.now(0) != 0) {
                Due.is("burnt at the end", burnt >= 60 ? 1 : 0, 1);
                break;
            }
            Due.is("TICK", x.now(1), tick);
            Due.is("BURNT", x.now(2), burnt);
            Due.is("LEFT", x.now(5), 60 - burnt);
            Due.is("burns", x.now(6), burns[tick % 12]);
            burnt += burns[tick % 12];
            Due.is("ticks(1)", x.ticks(1), 1);
        }
        Due.is("OUT", x.now(0), -9);
        Due.is("sold to nobody", x.lotOf(0, 4), -9);
        Due.is("PRICE 0", x.lotOf(0, 3), 0);
        Due.is("sold", x.lotOf(0, 2), 1);
    }

    private static void aloud() {
        InchCandle x = Due.hall("lot 9 worth 50;bidder 9 value 0 purse 100;late 0 value 0 purse 9999;");
        Due.is("call(0, 5)", x.call(0, 5), -4);
        x.light(0);
        Due.is("call(2, 5)", x.call(2, 5), -1);
        Due.is("call(-1, 5)", x.call(-1, 5), -1);
        Due.is("call(0, 0)", x.call(0, 0), -1);
        Due.is("call(0, -1)", x.call(0, -1), -1);
        Due.is("call(0, 10000)", x.call(0, 10000), -1);
        Due.is("call(0, 101), above PURSE", x.call(0, 101), -4);
        Due.is("HIGH", x.now(3), 0);
        Due.is("call(0, 99)", x.call(0, 99), 0);
        Due.is("call(0, 99)", x.call(0, 99), -4);
        Due.is("call(0, 98)", x.call(0, 98), -4);
        Due.is("call(0, 100) of the HOLDER", x.call(0, 100), 99);
        Due.is("HOLDER", x.now(4), 0);
        Due.is("call(1, 9999)", x.call(1, 9999), 100);
        Due.is("HOLDER", x.now(4), 1);
        Due.is("HIGH", x.now(3), 9999);
        Due.is("TICK", x.now(1), 0);
        Due.is("ticks(60)", x.ticks(60), 9);
        Due.is("PRICE", x.lotOf(0, 3), 9999);
        Due.is("PURSE", x.bidderOf(1, 3), 0);
        Due.is("the other PURSE", x.bidderOf(0, 3), 100);
    }

    private static void snuffed() {
        InchCandle x = Due.hall("lot 9 worth 50;lot 9 worth 50;bidder 0 value 0 purse 100;bidder 0 value 0 purse 50;");
        x.light(1);
        Due.is("snuff()", x.snuff(), -9);
        Due.is("PRICE", x.lotOf(1, 3), 0);
        Due.is("to whom", x.lotOf(1, 4), -9);
        Due.is("no LOT", x.now(0), -9);
        Due.is("snuff()", x.snuff(), -4);
        x.light(0);
        x.call(1, 40);
        x.purse(1, 1, 39);
        Due.is("snuff()", x.snuff(), 1);
        Due.is("PRICE is HIGH though", x.lotOf(0, 3), 40);
        Due.is("to whom", x.lotOf(0, 4), 1);
        Due.is("PURSE 0 at least", x.bidderOf(1, 3), 0);
        Due.is("the other PURSE", x.bidderOf(0, 3), 100);
    }

    private static void backAgain() {
        InchCandle x = Due.hall("lot 9 worth 50;lot 9 worth 50;bidder 0 value 0 purse 9999;");
        Due.is("back(0)", x.back(0), -4);
        Due.is("back(2)", x.back(2), -1);
        Due.is("back(-1)", x.back(-1), -1);
        x.light(0);
        Due.is("back(0) of THE LOT", x.back(0), -4);
        x.call(0, 300);
        x.snuff();
        Due.is("PURSE", x.bidderOf(0, 3), 9699);
        x.purse(0, 1, 9698);
        Due.is("back(0)", x.back(0), 1);
        Due.is("PURSE", x.bidderOf(0, 3), 9998);
        Due.is("sold", x.lotOf(0, 2), 0);
        Due.is("PRICE", x.lotOf(0, 3), -9);
        Due.is("to whom", x.lotOf(0, 4), -9);
        Due.is("back(0)", x.back(0), -4);
        x.light(0);
        x.call(0, 300);
        x.snuff();
        x.purse(0, 1, 9700);
        Due.is("back(0)", x.back(0), 1);
        Due.is("PURSE, 9999 at most", x.bidderOf(0, 3), 9999);
        x.light(1);
        x.snuff();
        Due.is("back(1) from nobody", x.back(1), 1);
        Due.is("PURSE", x.bidderOf(0, 3), 9999);
        Due.is("light(1)", x.light(1), 1);
    }
}
