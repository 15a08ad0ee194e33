/** The boundary cases that promises 14 to 20 name, a test for each sentence. */
public final class EdgesTicksTest {
    public static void main(String[] args) {
        light();
        lightState();
        nowWhat();
        nowNumbers();
        nowBurns();
        wouldRefused();
        wouldLimit();
        wouldEvery();
        wouldLate();
        wouldSniper();
        wouldBlind();
        wouldSums();
        ticksCounts();
        ticksOut();
        ticksByNumbers();
        ticksSold();
        callRefused();
        callState();
        callAloud();
        snuff();
        back();
        backPurse();
        Due.promises(14, 20);
        Due.end("EdgesTicksTest");
    }

    private static void light() {
        InchCandle x = Due.hall("lot 9 worth 9;lot 8 worth 9;lot 7 worth 9;lot 6 worth 9;lot 5 worth 9;");
        Due.sentence(14, "BAD: no such LOT");
        Due.range("light(v)", v -> {
            int got = x.light(v);
            x.snuff();
            return got;
        }, 0, 4, -1);
        Due.is("light(0) without LOTS", new InchCandle().light(0), -1);
        Due.sentence(14, "its candle is lit: TICK, BURNT and HIGH 0, HOLDER nobody, after another one too");
        InchCandle y = Due.hall("lot 9 worth 99;lot 8 worth 9;bidder 0 value 99 purse 99;");
        y.light(0);
        y.ticks(3);
        y.snuff();
        Due.is("light(1)", y.light(1), 1);
        int[] want = {1, 0, 0, 0, -9, 8, 1};
        for (int what = 0; what < 7; what++) {
            Due.is("now(" + what + ")", y.now(what), want[what]);
        }
    }

    private static void lightState() {
        InchCandle x = Due.hall("lot 9 worth 9;lot 1 worth 9;lot 7 worth 9;");
        x.light(1);
        Due.sentence(14, "STATE: there is THE LOT");
        Due.is("light(1), itself", x.light(1), -4);
        Due.is("light(0), another", x.light(0), -4);
        Due.is("light(2), another", x.light(2), -4);
        Due.sentence(14, "BAD ahead of STATE");
        Due.is("light(3)", x.light(3), -1);
        Due.is("light(-1)", x.light(-1), -1);
        Due.sentence(14, "STATE: it is sold");
        x.ticks(1);
        Due.is("light(1)", x.light(1), -4);
        x.light(0);
        Due.is("light(1), sold and there is THE LOT", x.light(1), -4);
        x.snuff();
        Due.sentence(14, "another one, and one that came back, may be lit when it is OUT");
        Due.is("light(2)", x.light(2), 1);
        x.snuff();
        x.back(1);
        Due.is("light(1)", x.light(1), 1);
    }

    private static void now(InchCandle x, int... want) {
        for (int what = 0; what < want.length; what++) {
            Due.is("now(" + what + ")", x.now(what), want[what]);
        }
    }

    private static void nowWhat() {
        InchCandle x = Due.hall("lot 9 worth 9;");
        Due.sentence(15, "BAD: another what, without THE LOT");
        for (int v : new int[] {-1, 7, 10, Integer.MIN_VALUE, Integer.MAX_VALUE}) {
            Due.is("now(" + v + ")", x.now(v), -1);
        }
        Due.sentence(15, "without THE LOT: -9 for THE LOT and for HOLDER, 0 for the others");
        now(x, -9, 0, 0, 0, -9, 0, 0);
        x.draught(0, 3);
        now(x, -9, 0, 0, 0, -9, 0, 0);
        Due.sentence(15, "BAD: another what, with THE LOT");
        x.light(0);
        Due.range("now(v)", v -> v == 4 ? 0 : x.now(v), 0, 6, -1);
        Due.sentence(15, "when it is OUT there is nothing left of it");
        x.bidder(0, 0, 0, 99);
        x.ticks(2);
        x.call(0, 9);
        now(x, 0, 2, 5, 9, 0, 4, 1);
        x.snuff();
        now(x, -9, 0, 0, 0, -9, 0, 0);
    }

    private static void nowNumbers() {
        Due.sentence(15, "TICK is 0 to 59, BURNT so much, LEFT 60 to 1, of the longest candle");
        InchCandle x = Due.hall("lot 60 worth 9;");
        x.light(0);
        for (int tick = 0; tick < 60; tick++) {
            now(x, 0, tick, tick, 0, -9, 60 - tick, 1);
            Due.is("ticks(1)", x.ticks(1), 1);
        }
        now(x, -9, 0, 0, 0, -9, 0, 0);
        Due.sentence(15, "of the shortest candle");
        InchCandle y = Due.hall("lot 1 worth 9;");
        y.light(0);
        now(y, 0, 0, 0, 0, -9, 1, 1);
        y.ticks(1);
        now(y, -9, 0, 0, 0, -9, 0, 0);
        Due.sentence(15, "THE LOT is 0 to 4, HOLDER 0 to 5, HIGH 1 to 9999");
        InchCandle z = new InchCandle();
        for (int i = 0; i < 6; i++) {
            z.lot(60, 9);
            z.bidder(0, 0, 0, 9999);
        }
        z.light(4);
        z.call(0, 1);
        now(z, 4, 0, 0, 1, 0);
        z.call(5, 9999);
        now(z, 4, 0, 0, 9999, 5);
    }

    private static void nowBurns() {
        Due.sentence(15, "how much this TICK burns: 1 and the DRAUGHT at the rest of TICK by 12");
        InchCandle x = Due.hall("lot 60 worth 9;draught 0 3;draught 10 1;draught 11 2;");
        x.light(0);
        int[] burns = {4, 1, 1, 1, 1, 1, 1, 1, 1, 1, 2, 3};
        int burnt = 0;
        for (int tick = 0; burnt < 60; tick++) {
            now(x, 0, tick, burnt, 0, -9, 60 - burnt, burns[tick % 12]);
            burnt += burns[tick % 12];
            x.ticks(1);
        }
        Due.is("now(0)", x.now(0), -9);
    }

    private static void wouldRefused() {
        InchCandle x = Due.hall("lot 9 worth 99;bidder 0 value 99 purse 99;bidder 0 value 99 purse 99;");
        Due.sentence(16, "BAD: no such BIDDER, with a LOT or none");
        Due.range("would(v)", x::would, 0, 1, -1);
        Due.is("would(0) without BIDDERS", new InchCandle().would(0), -1);
        x.light(0);
        Due.range("would(v)", x::would, 0, 1, -1);
        Due.sentence(16, "0: no LOT, not lit yet or OUT");
        InchCandle y = Due.hall("lot 9 worth 99;bidder 0 value 99 purse 99;");
        Due.is("would(0)", y.would(0), 0);
        y.light(0);
        Due.is("would(0)", y.would(0), 5);
        y.snuff();
        Due.is("would(0)", y.would(0), 0);
        Due.sentence(16, "0: the HOLDER");
        x.call(0, 1);
        Due.is("would(0)", x.would(0), 0);
        Due.is("would(1)", x.would(1), 6);
        x.call(1, 2);
        Due.is("would(0)", x.would(0), 7);
        Due.is("would(1)", x.would(1), 0);
    }

    /**
     * What BIDDER 0, told as a text, would call at a TICK of a LOT with a WAX, when another one has called
     * HIGH aloud (if above 0).
     */
    private static void would(String bidder, int wax, int tick, int high, int want) {
        InchCandle x = Due.hall("lot " + wax + " worth 99;" + bidder + "bidder 9 value 0 purse 9999;");
        int value = x.purse(0, 0, 0);
        x.light(0);
        Due.is("ticks", x.ticks(tick), tick);
        x.purse(0, 0, value);
        if (high > 0) {
            Due.is("call(1, " + high + ")", x.call(1, high), 0);
        }
        Due.is("would(0) of " + bidder + " WAX " + wax + " TICK " + tick + " HIGH " + high, x.would(0), want);
    }

    private static void wouldLimit() {
        Due.sentence(16, "the CALL is LIMIT at most: a bidder");
        would("bidder 0 value 999 purse 5;", 9, 0, 0, 5);
        would("bidder 0 value 999 purse 4;", 9, 0, 0, 0);
        would("bidder 0 value 999 purse 105;", 9, 0, 100, 105);
        would("bidder 0 value 999 purse 104;", 9, 0, 100, 0);
        would("bidder 0 value 6 purse 999;", 9, 0, 0, 5);
        would("bidder 0 value 5 purse 999;", 9, 0, 0, 0);
        would("bidder 0 value 0 purse 0;", 9, 0, 0, 0);
        Due.sentence(16, "the CALL is LIMIT at most: late, sniper, blind");
        would("late 9 value 999 purse 5;", 9, 0, 0, 5);
        would("late 9 value 999 purse 4;", 9, 0, 0, 0);
        would("sniper 9 value 999 purse 6;", 9, 0, 1, 6);
        would("sniper 9 value 999 purse 5;", 9, 0, 1, 0);
        would("blind 9 value 999 purse 5;", 1, 0, 0, 5);
        would("blind 9 value 999 purse 4;", 1, 0, 0, 0);
        Due.sentence(16, "the CALL is LIMIT at most: leaper, and broker by 9 of 10");
        would("leaper 3 value 999 purse 13;", 9, 0, 0, 13);
        would("leaper 3 value 999 purse 12;", 9, 0, 0, 0);
        would("broker 0 value 999 purse 12;", 9, 0, 0, 10);
        would("broker 0 value 999 purse 11;", 9, 0, 0, 0);
        would("broker 3 value 999 purse 15;", 9, 0, 0, 13);
        would("broker 3 value 999 purse 14;", 9, 0, 0, 0);
    }

    private static void wouldEvery() {
        Due.sentence(16, "the rest of TICK by (A + 1) is 0: bidder, leaper, broker, with A 0 to 9");
        String[] kinds = {"bidder ", "leaper ", "broker "};
        for (int a = 0; a <= 9; a++) {
            for (int tick = 0; tick <= 21; tick++) {
                boolean calls = tick % (a + 1) == 0;
                for (String kind : kinds) {
                    int sum = kind.equals("bidder ") ? 5 : 10 + a;
                    would(kind + a + " value 999 purse 999;", 60, tick, 0, calls ? sum : 0);
                }
            }
        }
        Due.sentence(16, "the same in the last TICK of all");
        would("bidder 0 value 999 purse 999;", 60, 59, 0, 5);
        would("bidder 1 value 999 purse 999;", 60, 59, 0, 0);
    }

    private static void wouldLate() {
        Due.sentence(16, "late: LEFT is 3 times A at most");
        for (int a = 1; a <= 9; a++) {
            String late = "late " + a + " value 999 purse 999;";
            would(late, 3 * a, 0, 0, 5);
            would(late, 3 * a + 1, 0, 0, 0);
            would(late, 3 * a - 1, 0, 0, 5);
        }
        Due.sentence(16, "late: with A 0 LEFT is never so little");
        would("late 0 value 999 purse 999;", 1, 0, 0, 0);
        would("late 0 value 999 purse 999;", 5, 4, 50, 0);
        Due.sentence(16, "late: as a bidder, the rest of TICK by (A + 1) is 0");
        would("late 2 value 999 purse 999;", 9, 3, 0, 5);
        would("late 2 value 999 purse 999;", 9, 4, 0, 0);
        would("late 2 value 999 purse 999;", 9, 5, 0, 0);
        would("late 2 value 999 purse 999;", 9, 6, 0, 5);
        would("late 2 value 999 purse 999;", 10, 3, 0, 0);
        Due.sentence(16, "late: HIGH may be 0 or above");
        would("late 2 value 999 purse 999;", 6, 0, 7, 12);
    }

    private static void wouldSniper() {
        Due.sentence(16, "sniper: HIGH is above 0");
        would("sniper 2 value 999 purse 999;", 6, 0, 0, 0);
        would("sniper 2 value 999 purse 999;", 6, 0, 1, 6);
        Due.sentence(16, "sniper: as a late one");
        would("sniper 2 value 999 purse 999;", 7, 0, 1, 0);
        would("sniper 2 value 999 purse 999;", 9, 3, 1, 6);
        would("sniper 2 value 999 purse 999;", 9, 4, 1, 0);
        would("sniper 2 value 999 purse 999;", 10, 3, 1, 0);
        would("sniper 0 value 999 purse 999;", 1, 0, 1, 0);
    }

    /** The blind one at TICK 0, which burns so much. */
    private static void blindAtFirst(int wax, int burns, int want) {
        InchCandle x = Due.hall("lot " + wax + " worth 99;blind 3 value 999 purse 999;draught 0 " + (burns - 1) + ";");
        x.light(0);
        Due.is("LEFT " + wax + ", burns " + burns, x.would(0), want);
    }

    private static void wouldBlind() {
        Due.sentence(16, "blind: LEFT is just what this TICK burns, or less");
        for (int burns = 1; burns <= 4; burns++) {
            blindAtFirst(burns, burns, 5);
            blindAtFirst(burns + 1, burns, 0);
            blindAtFirst(1, burns, 5);
        }
        Due.sentence(16, "blind: whatever TICK and A are");
        for (int a = 0; a <= 9; a++) {
            would("blind " + a + " value 999 purse 999;", 8, 7, 0, 5);
            would("blind " + a + " value 999 purse 999;", 8, 7, 3, 8);
            would("blind " + a + " value 999 purse 999;", 8, 6, 3, 0);
            would("blind " + a + " value 999 purse 999;", 8, 0, 3, 0);
        }
    }

    private static void sums(String bidder, int step, int wax, int high, int want) {
        InchCandle x = Due.hall("lot " + wax + " worth 99;" + bidder + "bidder 9 value 0 purse 9999;step " + step + ";");
        x.light(0);
        if (high > 0) {
            x.call(1, high);
        }
        Due.is("would(0) of " + bidder + " STEP " + step + " HIGH " + high, x.would(0), want);
    }

    private static void wouldSums() {
        Due.sentence(16, "so much more: STEP, of bidder, late, sniper, blind, 1 to 20");
        for (String kind : new String[] {"bidder 9", "late 9", "sniper 9", "blind 9"}) {
            sums(kind + " value 999 purse 999;", 1, 1, 3, 4);
            sums(kind + " value 999 purse 999;", 20, 1, 3, 23);
        }
        Due.sentence(16, "so much more: 2 * STEP + A, of leaper, broker");
        for (String kind : new String[] {"leaper ", "broker "}) {
            sums(kind + "0 value 999 purse 999;", 1, 9, 0, 2);
            sums(kind + "9 value 999 purse 999;", 1, 9, 0, 11);
            sums(kind + "0 value 999 purse 999;", 20, 9, 7, 47);
            sums(kind + "9 value 999 purse 999;", 20, 9, 7, 56);
        }
        Due.sentence(16, "the HIGH then, at the greatest LIMIT there is");
        sums("bidder 0 value 999 purse 9999;", 20, 9, 969, 989);
        sums("bidder 0 value 999 purse 9999;", 20, 9, 970, 0);
        sums("broker 0 value 999 purse 9999;", 20, 9, 850, 890);
        sums("broker 0 value 999 purse 9999;", 20, 9, 851, 0);
        sums("bidder 0 value 999 purse 9999;", 20, 9, 9999, 0);
    }

    private static void ticksCounts() {
        Due.sentence(17, "BAD: n is 0 to 60, with a LOT or none");
        InchCandle x = Due.hall("lot 60 worth 99;");
        Due.range("ticks(v)", x::ticks, 0, 60, -1);
        x.light(0);
        Due.is("ticks(-1)", x.ticks(-1), -1);
        Due.is("ticks(61)", x.ticks(61), -1);
        Due.is("now(1)", x.now(1), 0);
        Due.sentence(17, "0 TICKS: none goes");
        x.bidder(0, 0, 999, 999);
        Due.is("ticks(0)", x.ticks(0), 0);
        now(x, 0, 0, 0, 0, -9, 60, 1);
        Due.sentence(17, "n go, while there is THE LOT");
        Due.is("ticks(1)", x.ticks(1), 1);
        Due.is("ticks(58)", x.ticks(58), 58);
        now(x, 0, 59, 59, 5, 0, 1, 1);
        Due.sentence(17, "as far as THE LOT is there: how many went");
        Due.is("ticks(60)", x.ticks(60), 1);
        Due.is("ticks(60)", x.ticks(60), 0);
        Due.is("ticks(0)", x.ticks(0), 0);
        InchCandle y = Due.hall("lot 60 worth 99;lot 1 worth 99;");
        y.light(0);
        Due.is("ticks(60) of WAX 60", y.ticks(60), 60);
        y.light(1);
        Due.is("ticks(60) of WAX 1", y.ticks(60), 1);
        Due.is("ticks(60) without a LOT", new InchCandle().ticks(60), 0);
    }

    private static void outAfter(int wax, int first, int second, int ticks) {
        InchCandle x = Due.hall("lot " + wax + " worth 9;draught 0 " + (first - 1) + ";draught 1 " + (second - 1) + ";");
        x.light(0);
        Due.is("WAX " + wax + " burnt by " + first + " and " + second, x.ticks(ticks), ticks);
        Due.is("OUT", x.now(0), -9);
        x.back(0);
        x.light(0);
        Due.is("WAX " + wax + ", a TICK less", x.ticks(ticks - 1), ticks - 1);
        Due.is("not OUT", x.now(0), 0);
    }

    private static void ticksOut() {
        Due.sentence(17, "OUT: BURNT is just WAX");
        outAfter(1, 1, 1, 1);
        outAfter(4, 4, 1, 1);
        outAfter(6, 3, 3, 2);
        Due.sentence(17, "OUT: BURNT is more than WAX");
        outAfter(3, 4, 1, 1);
        outAfter(1, 4, 1, 1);
        outAfter(5, 4, 4, 2);
        Due.sentence(17, "not OUT: BURNT is 1 less than WAX");
        outAfter(5, 4, 1, 2);
        outAfter(7, 3, 3, 3);
        Due.sentence(17, "there is no LOT then, and no other one is lit by itself");
        InchCandle x = Due.hall("lot 1 worth 9;lot 1 worth 9;");
        x.light(0);
        Due.is("ticks(2)", x.ticks(2), 1);
        Due.is("now(0)", x.now(0), -9);
        Due.is("lotOf(1, 2)", x.lotOf(1, 2), 0);
    }

    private static void ticksByNumbers() {
        Due.sentence(17, "by numbers, as the ones ahead left HIGH: the next one's CALL is above LIMIT");
        InchCandle x = Due.hall("lot 9 worth 99;bidder 0 value 99 purse 99;bidder 0 value 99 purse 9;");
        x.light(0);
        x.ticks(1);
        now(x, 0, 1, 1, 5, 0);
        Due.sentence(17, "by numbers: it is LIMIT just so");
        InchCandle y = Due.hall("lot 9 worth 99;bidder 0 value 99 purse 99;bidder 0 value 99 purse 10;");
        y.light(0);
        y.ticks(1);
        now(y, 0, 1, 1, 10, 1);
        Due.sentence(17, "as the ones ahead left HOLDER: one that lost it to a later one calls no more in this TICK");
        y.ticks(1);
        now(y, 0, 2, 2, 15, 0);
        Due.sentence(17, "the HOLDER doesn't call, in no later TICK either");
        y.ticks(3);
        now(y, 0, 5, 5, 15, 0);
        Due.sentence(17, "a HOLDER that loses it to one ahead calls again in this TICK");
        InchCandle z = Due.hall("lot 9 worth 99;bidder 0 value 99 purse 99;bidder 0 value 99 purse 99;");
        z.light(0);
        z.call(1, 1);
        z.ticks(1);
        now(z, 0, 1, 1, 11, 1);
        Due.sentence(17, "a sniper behind one that calls has HIGH above 0, ahead of it not");
        InchCandle u = Due.hall("lot 1 worth 99;sniper 9 value 99 purse 99;bidder 0 value 99 purse 99;sniper 9 value 99 purse 99;");
        u.light(0);
        Due.is("would(0)", u.would(0), 0);
        Due.is("would(2)", u.would(2), 0);
        u.ticks(1);
        Due.is("to whom", u.lotOf(0, 4), 2);
        Due.is("PRICE", u.lotOf(0, 3), 10);
        Due.sentence(17, "the least CALL there is, 1, and the most that a LIMIT lets");
        InchCandle v = Due.hall("lot 1 worth 99;lot 1 worth 99;bidder 0 value 999 purse 9999;step 1;");
        v.light(0);
        v.ticks(1);
        Due.is("to whom", v.lotOf(0, 4), 0);
        Due.is("PRICE", v.lotOf(0, 3), 1);
        v.bidder(0, 0, 0, 9999);
        v.light(1);
        v.call(1, 988);
        v.ticks(1);
        Due.is("to whom", v.lotOf(1, 4), 0);
        Due.is("PRICE", v.lotOf(1, 3), 989);
        Due.sentence(17, "CALLS go ahead of the burning: all 6 in the only TICK there is");
        InchCandle w = Due.hall("lot 1 worth 99;" + "bidder 0 value 99 purse 99;".repeat(6));
        w.light(0);
        w.ticks(1);
        Due.is("to whom", w.lotOf(0, 4), 5);
        Due.is("PRICE", w.lotOf(0, 3), 30);
    }

    private static void ticksSold() {
        Due.sentence(17, "sold to the HOLDER for HIGH, PURSE is less by that");
        InchCandle x = Due.hall("lot 2 worth 99;lot 2 worth 99;lot 2 worth 99;bidder 0 value 99 purse 5;bidder 0 value 0 purse 70;");
        x.light(0);
        x.ticks(2);
        Due.is("PRICE", x.lotOf(0, 3), 5);
        Due.is("PURSE", x.bidderOf(0, 3), 0);
        Due.is("the other PURSE", x.bidderOf(1, 3), 70);
        Due.sentence(17, "PURSE is 0 at least; PRICE is HIGH though");
        x.light(1);
        x.call(1, 70);
        x.purse(1, 1, 69);
        x.ticks(60);
        Due.is("PRICE", x.lotOf(1, 3), 70);
        Due.is("PURSE", x.bidderOf(1, 3), 0);
        Due.sentence(17, "or to nobody: PRICE 0");
        x.light(2);
        x.ticks(60);
        Due.is("sold", x.lotOf(2, 2), 1);
        Due.is("PRICE", x.lotOf(2, 3), 0);
        Due.is("to whom", x.lotOf(2, 4), -9);
    }

    private static void callRefused() {
        InchCandle x = Due.hall("lot 9 worth 99;bidder 0 value 0 purse 9999;bidder 0 value 0 purse 9999;");
        Due.sentence(18, "BAD ahead of STATE: no LOT");
        Due.is("call(-1, 5)", x.call(-1, 5), -1);
        Due.is("call(2, 5)", x.call(2, 5), -1);
        Due.is("call(0, 0)", x.call(0, 0), -1);
        Due.is("call(0, 10000)", x.call(0, 10000), -1);
        Due.sentence(18, "BAD: no such BIDDER");
        x.keep();
        Due.range("call(v, 5)", v -> {
            x.again();
            x.light(0);
            return x.call(v, 5);
        }, 0, 1, -1);
        Due.sentence(18, "BAD: v not 1 to 9999");
        Due.range("call(1, v)", v -> {
            x.again();
            x.light(0);
            return x.call(1, v);
        }, 1, 9999, -1);
        Due.sentence(18, "BAD ahead of STATE: v is not above HIGH, or above PURSE");
        x.again();
        x.light(0);
        x.call(0, 9);
        x.purse(1, 1, 20);
        Due.is("call(1, 0)", x.call(1, 0), -1);
        Due.is("call(1, 10000)", x.call(1, 10000), -1);
        Due.is("call(2, 9)", x.call(2, 9), -1);
    }

    private static void callState() {
        InchCandle x = Due.hall("lot 9 worth 99;bidder 0 value 0 purse 50;bidder 0 value 0 purse 9999;");
        Due.sentence(18, "STATE: no LOT, not lit yet or OUT");
        Due.is("call(0, 5)", x.call(0, 5), -4);
        x.light(0);
        x.snuff();
        Due.is("call(0, 5)", x.call(0, 5), -4);
        x.back(0);
        x.light(0);
        Due.sentence(18, "STATE: v is above PURSE");
        Due.is("call(0, 51)", x.call(0, 51), -4);
        Due.is("HIGH", x.now(3), 0);
        Due.is("call(0, 50), just PURSE", x.call(0, 50), 0);
        x.purse(0, 1, 0);
        Due.is("call(0, 51) with PURSE 0", x.call(0, 51), -4);
        Due.sentence(18, "STATE: v is not above HIGH");
        Due.is("call(1, 50)", x.call(1, 50), -4);
        Due.is("call(1, 49)", x.call(1, 49), -4);
        Due.is("call(1, 1)", x.call(1, 1), -4);
        Due.is("HIGH", x.now(3), 50);
        Due.is("HOLDER", x.now(4), 0);
        Due.is("call(1, 51), 1 above HIGH", x.call(1, 51), 50);
        Due.sentence(18, "STATE: HIGH is 9999, nothing is above");
        Due.is("call(1, 9999)", x.call(1, 9999), 51);
        Due.is("call(1, 9999)", x.call(1, 9999), -4);
        Due.sentence(18, "the least CALL there is: 1 above HIGH 0");
        InchCandle y = Due.hall("lot 9 worth 99;bidder 0 value 0 purse 1;bidder 0 value 0 purse 0;");
        y.light(0);
        Due.is("call(1, 1) with PURSE 0", y.call(1, 1), -4);
        Due.is("call(0, 1)", y.call(0, 1), 0);
        Due.is("HIGH", y.now(3), 1);
    }

    private static void callAloud() {
        InchCandle x = Due.hall("lot 9 worth 1;sniper 9 value 0 purse 50;late 0 value 0 purse 50;");
        x.light(0);
        Due.sentence(18, "a BIDDER of whatever KIND, A and LIMIT, in any TICK");
        Due.is("call(0, 1)", x.call(0, 1), 0);
        x.ticks(1);
        Due.is("call(1, 2)", x.call(1, 2), 1);
        Due.sentence(18, "the HOLDER too");
        Due.is("call(1, 3)", x.call(1, 3), 2);
        Due.is("HOLDER", x.now(4), 1);
        Due.sentence(18, "what HIGH was; TICK and BURNT and PURSES stay");
        now(x, 0, 1, 1, 3, 1, 8, 1);
        Due.is("PURSE", x.bidderOf(1, 3), 50);
    }

    private static void snuff() {
        Due.sentence(19, "STATE: there is none, not yet, or no more");
        InchCandle x = Due.hall("lot 9 worth 99;lot 9 worth 99;bidder 0 value 0 purse 50;");
        Due.is("snuff() of a new object", new InchCandle().snuff(), -4);
        Due.is("snuff()", x.snuff(), -4);
        x.light(0);
        Due.sentence(19, "-9: nobody, PRICE 0");
        Due.is("snuff() in TICK 0", x.snuff(), -9);
        Due.is("PRICE", x.lotOf(0, 3), 0);
        Due.is("now(0)", x.now(0), -9);
        Due.is("snuff()", x.snuff(), -4);
        Due.sentence(19, "sold as told: to whom, BIDDER 0 too");
        x.light(1);
        x.call(0, 50);
        x.ticks(8);
        Due.is("snuff() in the last TICK", x.snuff(), 0);
        Due.is("PURSE", x.bidderOf(0, 3), 0);
        Due.is("PRICE", x.lotOf(1, 3), 50);
        Due.is("many(2)", x.many(2), 2);
        Due.sentence(19, "sold as told: PURSE 0 at least, PRICE is HIGH though");
        x.back(1);
        x.light(1);
        x.call(0, 50);
        x.purse(0, 1, 49);
        Due.is("snuff()", x.snuff(), 0);
        Due.is("PURSE", x.bidderOf(0, 3), 0);
        Due.is("PRICE", x.lotOf(1, 3), 50);
    }

    private static void back() {
        InchCandle x = Due.hall("lot 9 worth 99;lot 9 worth 99;bidder 0 value 0 purse 50;");
        Due.sentence(20, "BAD: no such LOT");
        Due.range("back(v)", x::back, 0, 1, -1);
        Due.is("back(0) without LOTS", new InchCandle().back(0), -1);
        Due.sentence(20, "STATE: it isn't sold, THE LOT neither");
        Due.is("back(0)", x.back(0), -4);
        x.light(0);
        x.call(0, 5);
        Due.is("back(0) of THE LOT", x.back(0), -4);
        Due.is("back(1)", x.back(1), -4);
        Due.is("HIGH", x.now(3), 5);
        x.snuff();
        Due.sentence(20, "a LOT that is sold comes back, unsold: PRICE -9, to whom -9");
        Due.is("back(0)", x.back(0), 1);
        Due.is("sold", x.lotOf(0, 2), 0);
        Due.is("PRICE", x.lotOf(0, 3), -9);
        Due.is("to whom", x.lotOf(0, 4), -9);
        Due.sentence(20, "STATE: it came back already");
        Due.is("back(0)", x.back(0), -4);
        Due.is("PURSE", x.bidderOf(0, 3), 50);
        Due.sentence(20, "one that was sold to nobody comes back too");
        x.light(1);
        x.snuff();
        Due.is("back(1)", x.back(1), 1);
        Due.is("PURSE", x.bidderOf(0, 3), 50);
        Due.sentence(20, "while another candle burns, too");
        x.light(1);
        x.snuff();
        x.light(0);
        Due.is("back(1)", x.back(1), 1);
        Due.is("now(0)", x.now(0), 0);
    }

    /** One who bought for 300 has so much then, and this when it comes back. */
    private static void purseAfter(int purse, int want) {
        InchCandle x = Due.hall("lot 9 worth 99;bidder 0 value 0 purse 7;bidder 0 value 0 purse 300;");
        x.light(0);
        x.call(1, 300);
        x.snuff();
        x.purse(1, 1, purse);
        Due.is("back(0)", x.back(0), 1);
        Due.is("PURSE of " + purse + " and 300", x.bidderOf(1, 3), want);
        Due.is("the other PURSE", x.bidderOf(0, 3), 7);
    }

    private static void backPurse() {
        Due.sentence(20, "its PRICE comes back to the PURSE");
        purseAfter(0, 300);
        purseAfter(9698, 9998);
        purseAfter(9699, 9999);
        Due.sentence(20, "9999 at most");
        purseAfter(9700, 9999);
        purseAfter(9999, 9999);
        Due.sentence(20, "the whole PRICE, though the PURSE was less by not so much");
        InchCandle x = Due.hall("lot 9 worth 99;bidder 0 value 0 purse 9999;");
        x.light(0);
        x.call(0, 9999);
        x.purse(0, 1, 5);
        x.snuff();
        Due.is("PURSE", x.bidderOf(0, 3), 0);
        x.back(0);
        Due.is("PURSE", x.bidderOf(0, 3), 9999);
    }
}
