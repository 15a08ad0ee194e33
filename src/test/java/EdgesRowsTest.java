/** The boundary cases that promises 32 to 36 name, a test for each sentence. */
public final class EdgesRowsTest {
    private static final int MIN = Integer.MIN_VALUE, MAX = Integer.MAX_VALUE;

    public static void main(String[] args) {
        proveRefused();
        proveCounts();
        proveFirstTwenty();
        row();
        alterRow();
        judgeRefused();
        judgeRight();
        judgeWrong();
        judgeFewer();
        judgeTwenty();
        draughtsBad();
        draughtsHost();
        draughtsOutside();
        draughtsHeld();
        Due.promises(32, 36);
        Due.end("EdgesRowsTest");
    }

    /** So many CALLS: 5 by the first and 10 by the second in TICK 0, and so on by 5 up to 5 * calls. */
    private static InchCandle calls(int calls) {
        InchCandle x = Due.hall("lot 60 worth 99;lot 1 worth 99;bidder 0 value 999 purse 0;bidder 0 value 999 purse 0;");
        setCalls(x, calls);
        return x;
    }

    private static void setCalls(InchCandle x, int calls) {
        // the one who calls last has just that LIMIT, the other 5 less than what would be next
        x.purse(0, 1, calls % 2 == 1 ? 5 * calls : 5 * calls + 4);
        x.purse(1, 1, calls % 2 == 0 ? 5 * calls : 5 * calls + 4);
    }

    private static void proveRefused() {
        InchCandle x = Due.hall("lot 3 worth 99;lot 9 worth 99;lot 9 worth 99;bidder 0 value 99 purse 99;");
        Due.is("prove(2)", x.prove(2), 1);
        x.light(0);
        x.ticks(3);
        x.light(1);
        x.snuff();
        Due.sentence(32, "BAD: no such LOT");
        for (int lot : new int[] {-1, 3, 5, MIN, MAX}) {
            Due.is("prove(" + lot + ")", x.prove(lot), -1);
        }
        Due.is("prove(0) without LOTS", new InchCandle().prove(0), -1);
        Due.sentence(32, "BAD: also one that is sold");
        Due.is("prove(0), sold to somebody", x.prove(0), -1);
        Due.is("prove(1), sold to nobody", x.back(1) == 1 && x.light(1) == 1 && x.snuff() == -9 ? x.prove(1) : 0, -1);
        Due.sentence(32, "with BAD the ROWS stay");
        Due.is("many(3)", x.many(3), 1);
        Due.is("row(0, 2)", x.row(0, 2), 5);
        Due.sentence(32, "THE LOT is proven as if lit anew");
        x.light(2);
        x.ticks(4);
        Due.is("prove(2)", x.prove(2), 1);
        Due.is("row(0, 0)", x.row(0, 0), 0);
        Due.is("now(1)", x.now(1), 4);
    }

    private static void proveCounts() {
        Due.sentence(32, "ROWS: how many, 0 to 20");
        for (int n = 0; n <= 20; n++) {
            InchCandle x = calls(n);
            Due.is("prove(0) of " + n + " CALLS", x.prove(0), n);
            Due.is("many(3)", x.many(3), n);
            Due.is("the last row", x.row(n - 1, 2), n == 0 ? -9 : 5 * n);
            Due.is("none behind", x.row(n, 2), -9);
        }
        Due.sentence(32, "ROWS of the TRIAL ahead are gone");
        InchCandle x = calls(20);
        Due.is("prove(0)", x.prove(0), 20);
        Due.is("prove(1)", x.prove(1), 2);
        Due.is("row(2, 0)", x.row(2, 0), -9);
        setCalls(x, 0);
        Due.is("prove(1)", x.prove(1), 0);
        Due.is("row(0, 0)", x.row(0, 0), -9);
    }

    private static void proveFirstTwenty() {
        Due.sentence(32, "the first 20 CALLS of a TRIAL: of 21 and more 20");
        for (int n : new int[] {21, 22, 40, 119, 120}) {
            InchCandle x = calls(n);
            Due.is("PRICE of " + n + " CALLS", x.wins(0, 1), 5 * n);
            Due.is("prove(0)", x.prove(0), 20);
            Due.is("many(3)", x.many(3), 20);
            for (int i = 0; i < 20; i++) {
                Due.is("TICK of " + i, x.row(i, 0), i / 2);
                Due.is("who of " + i, x.row(i, 1), i % 2);
                Due.is("HIGH then of " + i, x.row(i, 2), 5 * i + 5);
            }
            Due.is("row(20, 2)", x.row(20, 2), -9);
        }
        Due.sentence(32, "the last TICK of the longest candle, and 6 in one TICK");
        InchCandle y = Due.hall("lot 60 worth 99;" + "blind 0 value 99 purse 99;".repeat(6));
        Due.is("prove(0)", y.prove(0), 6);
        Due.is("row(5, 0)", y.row(5, 0), 59);
        Due.is("row(5, 1)", y.row(5, 1), 5);
        Due.is("row(5, 2)", y.row(5, 2), 30);
    }

    private static void row() {
        InchCandle x = calls(3);
        Due.sentence(33, "-9: there is none such, ahead of prove()");
        Due.is("row(0, 0)", x.row(0, 0), -9);
        x.prove(0);
        Due.sentence(33, "-9: there is none such");
        Due.range("row(v, 2)", v -> x.row(v, 2), 0, 2, -9);
        Due.is("row(20, 2)", x.row(20, 2), -9);
        Due.sentence(33, "-9: another what");
        Due.range("row(2, v)", v -> x.row(2, v), 0, 2, -9);
        Due.sentence(33, "a row of 20");
        setCalls(x, 50);
        x.prove(0);
        Due.range("row(v, 2) of 20", v -> x.row(v, 2), 0, 19, -9);
    }

    private static void alterRow() {
        InchCandle x = calls(3);
        Due.sentence(34, "-9: there is none such, ahead of prove()");
        Due.is("alterRow(0, 0, 5)", x.alterRow(0, 0, 5), -9);
        Due.is("many(3)", x.many(3), 0);
        x.prove(0);
        Due.sentence(34, "-9: there is none such");
        Due.range("alterRow(v, 2, 7)", v -> x.alterRow(v, 2, 7), 0, 2, -9);
        Due.sentence(34, "-9: another what");
        Due.range("alterRow(1, v, 7)", v -> x.alterRow(1, v, 7), 0, 2, -9);
        Due.is("many(3)", x.many(3), 3);
        Due.sentence(34, "it becomes v, any int: what it was");
        int was = 7;
        for (int v : new int[] {MIN, MAX, -9, 0, -1}) {
            Due.is("alterRow(2, 2, " + v + ")", x.alterRow(2, 2, v), was);
            Due.is("row(2, 2)", x.row(2, 2), v);
            was = v;
        }
        Due.sentence(34, "the numbers beside it stay");
        Due.is("row(2, 1)", x.row(2, 1), 0);
        Due.is("row(1, 2)", x.row(1, 2), 7);
        Due.is("row(2, 0)", x.row(2, 0), 1);
        Due.sentence(34, "the last of 20, and not one behind it");
        setCalls(x, 50);
        x.prove(0);
        Due.is("alterRow(19, 2, 6)", x.alterRow(19, 2, 6), 100);
        Due.is("alterRow(20, 2, 6)", x.alterRow(20, 2, 6), -9);
    }

    private static void judgeRefused() {
        InchCandle x = Due.hall("lot 3 worth 99;lot 9 worth 99;lot 9 worth 99;bidder 0 value 99 purse 99;");
        x.prove(2);
        x.light(0);
        x.ticks(3);
        x.light(1);
        x.snuff();
        Due.sentence(35, "BAD: no such LOT");
        for (int lot : new int[] {-1, 3, 5, MIN, MAX}) {
            Due.is("judge(" + lot + ")", x.judge(lot), -1);
        }
        Due.is("judge(0) without LOTS", new InchCandle().judge(0), -1);
        Due.sentence(35, "BAD: also one that is sold");
        Due.is("judge(0)", x.judge(0), -1);
        Due.is("judge(1), sold", x.judge(1), -1);
        Due.sentence(35, "THE LOT is not sold, and is taken as if lit anew");
        x.light(2);
        x.ticks(4);
        Due.is("judge(2)", x.judge(2), 0);
    }

    private static void judgeRight() {
        Due.sentence(35, "0: all is right, of 0 to 20 CALLS");
        for (int n = 0; n <= 20; n++) {
            InchCandle x = calls(n);
            Due.is("prove(0)", x.prove(0), n);
            Due.is("judge(0)", x.judge(0), 0);
        }
        Due.sentence(35, "0: no ROWS of a TRIAL without CALLS, prove() or not");
        Due.is("judge(0)", calls(0).judge(0), 0);
        Due.sentence(35, "a row altered to what it was is right");
        InchCandle x = calls(3);
        x.prove(0);
        x.alterRow(1, 2, 99);
        x.alterRow(1, 2, 10);
        Due.is("judge(0)", x.judge(0), 0);
        Due.sentence(35, "ROWS of another LOT are taken as those of this one");
        x.prove(1);
        Due.is("judge(0), 2 of 3", x.judge(0), 222);
        Due.is("judge(1)", x.judge(1), 0);
        x.prove(0);
        Due.is("judge(1), the third is too many", x.judge(1), 3);
    }

    private static void judgeWrong() {
        Due.sentence(35, "the first ROW that isn't, and 1 more: each of 20, by 1 in each of its numbers");
        InchCandle x = calls(50);
        x.prove(0);
        for (int i = 0; i < 20; i++) {
            for (int what = 0; what < 3; what++) {
                int was = x.row(i, what);
                x.alterRow(i, what, was + 1);
                Due.is("judge(0), 1 more in " + i + ", " + what, x.judge(0), i + 1);
                x.alterRow(i, what, was);
            }
        }
        Due.is("judge(0)", x.judge(0), 0);
        Due.sentence(35, "of several that are wrong the first");
        InchCandle y = calls(9);
        y.prove(0);
        y.alterRow(8, 0, -1);
        Due.is("judge(0)", y.judge(0), 9);
        y.alterRow(3, 1, MIN);
        Due.is("judge(0)", y.judge(0), 4);
        y.alterRow(0, 2, MAX);
        Due.is("judge(0)", y.judge(0), 1);
        Due.sentence(35, "a wrong one ahead of fewer, and of more");
        InchCandle z = calls(3);
        z.prove(0);
        z.alterRow(1, 2, 11);
        setCalls(z, 4);
        Due.is("judge(0), wrong and fewer", z.judge(0), 2);
        setCalls(z, 2);
        Due.is("judge(0), wrong and more", z.judge(0), 2);
    }

    private static void judgeFewer() {
        Due.sentence(35, "222: fewer CALLS told than the TRIAL has, by 1 and by all");
        InchCandle x = calls(3);
        Due.is("judge(0) of no ROWS", x.judge(0), 222);
        x.prove(0);
        setCalls(x, 4);
        Due.is("judge(0), 3 of 4", x.judge(0), 222);
        setCalls(x, 120);
        Due.is("judge(0), 3 of 120", x.judge(0), 222);
        Due.sentence(35, "more are wrong, by 1 and by all");
        setCalls(x, 2);
        Due.is("judge(0), 3 of 2", x.judge(0), 3);
        setCalls(x, 1);
        Due.is("judge(0), 3 of 1", x.judge(0), 2);
        setCalls(x, 0);
        Due.is("judge(0), 3 of none", x.judge(0), 1);
        Due.sentence(35, "more are wrong, whatever they tell");
        for (int what = 0; what < 3; what++) {
            x.alterRow(0, what, -9);
        }
        Due.is("judge(0), -9 thrice of none", x.judge(0), 1);
    }

    private static void judgeTwenty() {
        Due.sentence(35, "20 at most: 20 told of 20, 21 and more are all");
        InchCandle x = calls(20);
        x.prove(0);
        for (int n : new int[] {20, 21, 22, 120}) {
            setCalls(x, n);
            Due.is("judge(0), 20 of " + n, x.judge(0), 0);
        }
        Due.sentence(35, "20 at most: 19 told of 20, 21 and more are fewer");
        InchCandle y = calls(19);
        y.prove(0);
        for (int n : new int[] {20, 21, 120}) {
            setCalls(y, n);
            Due.is("judge(0), 19 of " + n, y.judge(0), 222);
        }
        Due.sentence(35, "20 told of 19: the last is wrong");
        setCalls(x, 19);
        Due.is("judge(0)", x.judge(0), 20);
    }

    private static void draughtsBad() {
        InchCandle x = new InchCandle();
        x.sheet(0, 0, 40);
        x.sheet(3, 0, 40);
        Due.sentence(36, "BAD: no such SHEET");
        Due.range("draughts(v, 0, 0, 1)", v -> x.draughts(v, 0, 0, 1), 0, 3, -1);
        Due.sentence(36, "BAD: place is 0 to 11");
        Due.range("draughts(0, 0, v, 0)", v -> x.draughts(0, 0, v, 0), 0, 11, -1);
        Due.range("draughts(0, 0, v, 1)", v -> x.draughts(0, 0, v, 1), 0, 11, -1);
        Due.sentence(36, "BAD: n is 0 to 12");
        Due.range("draughts(0, 0, 0, v)", v -> x.draughts(0, 0, 0, v), 0, 12, -1);
        Due.sentence(36, "BAD: n goes beyond 11, from each place on");
        for (int place = 0; place < 12; place++) {
            int at = place;
            Due.range("draughts(0, 0, " + place + ", v)", v -> x.draughts(0, 0, at, v), 0, 12 - place, -1);
        }
        Due.sentence(36, "BAD ahead of -11, of -13 and of -12");
        x.sheet(2, 2, 1);
        Due.is("missing, place 12", x.draughts(1, 0, 12, 0), -1);
        Due.is("missing, n 13", x.draughts(1, 0, 0, 13), -1);
        Due.is("missing, n beyond 11", x.draughts(1, 0, 11, 2), -1);
        Due.is("ints, place -1", x.draughts(2, 0, -1, 0), -1);
        Due.is("ints, n -1", x.draughts(2, 0, 0, -1), -1);
        Due.is("outside, n beyond 11", x.draughts(0, 99, 11, 2), -1);
    }

    private static void draughtsHost() {
        InchCandle x = new InchCandle();
        Due.sentence(36, "-11: the SHEET is missing, at first and again, with n 0 too");
        Due.is("draughts(0, 0, 0, 1)", x.draughts(0, 0, 0, 1), -11);
        Due.is("draughts(0, 0, 0, 0)", x.draughts(0, 0, 0, 0), -11);
        x.sheet(0, 0, 4);
        x.sheet(0, -1, 4);
        Due.is("draughts(0, 0, 0, 1)", x.draughts(0, 0, 0, 1), -11);
        Due.sentence(36, "-11 ahead of -12");
        Due.is("draughts(0, -1, 0, 1)", x.draughts(0, -1, 0, 1), -11);
        Due.is("draughts(0, 41, 0, 1)", x.draughts(0, 41, 0, 1), -11);
        Due.sentence(36, "-13: shorts, ints and longs are no bytes, with n 0 too");
        for (int sort = 1; sort <= 3; sort++) {
            x.sheet(sort, sort, 2);
            Due.is("draughts of sort " + sort, x.draughts(sort, 0, 0, 2), -13);
            Due.is("draughts of sort " + sort + ", n 0", x.draughts(sort, 0, 0, 0), -13);
        }
        Due.sentence(36, "-13 ahead of -12");
        for (int sort = 1; sort <= 3; sort++) {
            Due.is("outside, sort " + sort, x.draughts(sort, 3, 0, 0), -13);
            Due.is("below 0, sort " + sort, x.draughts(sort, -1, 0, 1), -13);
            Due.is("too many, sort " + sort, x.draughts(sort, 0, 0, 3), -13);
        }
    }

    private static void draughtsOutside() {
        InchCandle x = new InchCandle();
        x.sheet(0, 0, 14);
        Due.sentence(36, "-12: i to i + n - 1 are items, each of n 1 to 12");
        for (int n = 1; n <= 12; n++) {
            int many = n;
            Due.range("draughts(0, v, 0, " + n + ") of 14", v -> x.draughts(0, v, 0, many), 0, 14 - n, -12);
        }
        Due.sentence(36, "-12: i too, with n 0: just behind the last is within");
        Due.range("draughts(0, v, 0, 0) of 14", v -> x.draughts(0, v, 0, 0), 0, 14, -12);
        Due.sentence(36, "-12: a SHEET of no items");
        x.sheet(1, 0, 0);
        Due.is("draughts(1, 0, 0, 0)", x.draughts(1, 0, 0, 0), 0);
        Due.is("draughts(1, 0, 0, 1)", x.draughts(1, 0, 0, 1), -12);
        Due.is("draughts(1, 1, 0, 0)", x.draughts(1, 1, 0, 0), -12);
        Due.is("draughts(1, -1, 0, 0)", x.draughts(1, -1, 0, 0), -12);
        Due.sentence(36, "-12: a SHEET of fewer items than n");
        x.sheet(1, 0, 11);
        Due.is("draughts(1, 0, 0, 12)", x.draughts(1, 0, 0, 12), -12);
        Due.is("draughts(1, 0, 0, 11)", x.draughts(1, 0, 0, 11), 11);
        Due.sentence(36, "a SHEET of 40 items: the last 12, and 1 more");
        x.sheet(1, 0, 40);
        Due.is("draughts(1, 28, 0, 12)", x.draughts(1, 28, 0, 12), 12);
        Due.is("draughts(1, 29, 0, 12)", x.draughts(1, 29, 0, 12), -12);
        Due.is("draughts(1, 39, 11, 1)", x.draughts(1, 39, 11, 1), 1);
        Due.is("draughts(1, 40, 11, 1)", x.draughts(1, 40, 11, 1), -12);
    }

    private static void draughtsHeld() {
        InchCandle x = new InchCandle();
        Due.sentence(36, "held to 0 to 3");
        int[] items = {-128, -1, 0, 1, 2, 3, 4, 127, -3, 5, 3, 0};
        int[] held = {0, 0, 0, 1, 2, 3, 3, 3, 0, 3, 3, 0};
        x.sheet(0, 0, 12);
        for (int i = 0; i < 12; i++) {
            x.put(0, i, items[i]);
        }
        Due.is("draughts(0, 0, 0, 12)", x.draughts(0, 0, 0, 12), 12);
        for (int place = 0; place < 12; place++) {
            Due.is("draught(" + place + ", 0)", x.draught(place, 0), held[place]);
        }
        Due.sentence(36, "from i on, from one on: the others stay");
        Due.is("draughts(0, 4, 9, 2)", x.draughts(0, 4, 9, 2), 2);
        for (int place = 0; place < 12; place++) {
            Due.is("draught(" + place + ", 0)", x.draught(place, 0), place == 9 ? 2 : place == 10 ? 3 : 0);
        }
        Due.sentence(36, "n 0: none changes");
        x.draught(5, 2);
        Due.is("draughts(0, 3, 5, 0)", x.draughts(0, 3, 5, 0), 0);
        Due.is("draught(5, 0)", x.draught(5, 0), 2);
        Due.sentence(36, "a byte that was put as 256 and 255 is 0 and -1");
        x.put(0, 0, 257);
        x.put(0, 1, 255);
        x.draught(1, 3);
        Due.is("draughts(0, 0, 0, 2)", x.draughts(0, 0, 0, 2), 2);
        Due.is("draught(0, 0)", x.draught(0, 0), 1);
        Due.is("draught(1, 0)", x.draught(1, 0), 0);
        Due.sentence(36, "the SHEET stays");
        Due.is("item(0, 0, 0)", x.item(0, 0, 0), 1);
        Due.is("item(0, 0, 7)", x.item(0, 0, 7), 127);
    }
}
