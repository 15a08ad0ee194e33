/** Promises 32 to 36: ROWS, THE READER, DRAUGHTS from a SHEET. */
public final class RowsTest {
    public static void main(String[] args) {
        told();
        altered();
        judged();
        twenty();
        draughtsOfSheets();
        Due.end("RowsTest");
    }

    private static InchCandle threeCalls() {
        return Due.hall("lot 5 worth 99;lot 9 worth 9;bidder 3 value 99 purse 5;late 3 value 99 purse 10;"
            + "blind 2 value 99 purse 15;");
    }

    private static void told() {
        InchCandle x = threeCalls();
        Due.is("row(0, 0)", x.row(0, 0), -9);
        Due.is("prove(-1)", x.prove(-1), -1);
        Due.is("prove(2)", x.prove(2), -1);
        // LEFT 5 in TICK 0: 5 by the first, 10 by the late one; 15 by the blind one in TICK 4
        Due.is("prove(0)", x.prove(0), 3);
        int[][] want = {{0, 0, 5}, {0, 1, 10}, {4, 2, 15}};
        for (int i = 0; i < 3; i++) {
            for (int what = 0; what < 3; what++) {
                Due.is("row(" + i + ", " + what + ")", x.row(i, what), want[i][what]);
            }
        }
        Due.is("row(3, 0)", x.row(3, 0), -9);
        Due.is("row(-1, 0)", x.row(-1, 0), -9);
        Due.is("row(0, 3)", x.row(0, 3), -9);
        Due.is("row(0, -1)", x.row(0, -1), -9);
        Due.is("row(20, 0)", x.row(20, 0), -9);
        Due.is("many(3)", x.many(3), 3);
        Due.is("prove(5)", x.prove(5), -1);
        Due.is("ROWS stay with BAD", x.many(3), 3);
        x.light(1);
        x.ticks(2);
        Due.is("prove(1)", x.prove(1), 1);
        Due.is("TICK stays", x.now(1), 2);
        Due.is("row(0, 2)", x.row(0, 2), 5);
    }

    private static void altered() {
        InchCandle x = threeCalls();
        Due.is("alterRow(0, 0, 7)", x.alterRow(0, 0, 7), -9);
        x.prove(0);
        Due.is("alterRow(1, 2, -9)", x.alterRow(1, 2, -9), 10);
        Due.is("row(1, 2)", x.row(1, 2), -9);
        Due.is("alterRow(1, 2, 77)", x.alterRow(1, 2, 77), -9);
        Due.is("alterRow(1, 0, -2147483648)", x.alterRow(1, 0, Integer.MIN_VALUE), 0);
        Due.is("alterRow(1, 1, 8)", x.alterRow(1, 1, 8), 1);
        Due.is("row(1, 0)", x.row(1, 0), Integer.MIN_VALUE);
        Due.is("row(1, 1)", x.row(1, 1), 8);
        Due.is("row(1, 2)", x.row(1, 2), 77);
        Due.is("alterRow(3, 0, 7)", x.alterRow(3, 0, 7), -9);
        Due.is("alterRow(-1, 0, 7)", x.alterRow(-1, 0, 7), -9);
        Due.is("alterRow(1, 3, 7)", x.alterRow(1, 3, 7), -9);
        Due.is("alterRow(0, -1, 7)", x.alterRow(0, -1, 7), -9);
        Due.is("row(2, 0)", x.row(2, 0), 4);
        Due.is("row(0, 2)", x.row(0, 2), 5);
    }

    private static void judged() {
        InchCandle x = threeCalls();
        Due.is("judge(0) without ROWS", x.judge(0), 222);
        Due.is("judge(2)", x.judge(2), -1);
        Due.is("judge(-1)", x.judge(-1), -1);
        x.prove(0);
        Due.is("judge(0)", x.judge(0), 0);
        // the first row is LOT 1's too (LIMIT 8)
        Due.is("judge(1)", x.judge(1), 2);
        for (int i = 0; i < 3; i++) {
            for (int what = 0; what < 3; what++) {
                int was = x.alterRow(i, what, 6);
                Due.is("judge(0) with row " + i + ", " + what + " altered", x.judge(0), i + 1);
                x.alterRow(i, what, was);
            }
        }
        x.alterRow(1, 0, 1);
        x.alterRow(2, 0, 1);
        Due.is("the first one that isn't", x.judge(0), 2);
        x.prove(0);
        x.purse(2, 1, 14);
        Due.is("more are wrong", x.judge(0), 3);
        x.alterRow(2, 0, -9);
        x.alterRow(2, 1, -9);
        x.alterRow(2, 2, -9);
        Due.is("more are wrong, whatever they tell", x.judge(0), 3);
        x.alterRow(2, 0, 4);
        x.alterRow(2, 1, 2);
        x.alterRow(2, 2, 15);
        x.purse(2, 1, 15);
        x.bidder(5, 0, 99, 20);
        Due.is("fewer", x.judge(0), 222);
        x.mind(3, 5, 0);
        x.purse(3, 1, 19);
        Due.is("all", x.judge(0), 0);
        x.purse(0, 0, 0);
        x.purse(1, 0, 0);
        x.purse(2, 0, 0);
        x.purse(3, 0, 0);
        Due.is("more than none", x.judge(0), 1);
        x.prove(0);
        Due.is("none of none", x.judge(0), 0);
        Due.is("many(3)", x.many(3), 0);
    }

    private static void twenty() {
        InchCandle x = Due.hall("lot 60 worth 99;lot 9 worth 99;bidder 0 value 999 purse 999;bidder 0 value 999 purse 999;");
        // two CALLS in each TICK
        Due.is("prove(0)", x.prove(0), 20);
        Due.is("row(19, 0)", x.row(19, 0), 9);
        Due.is("row(19, 1)", x.row(19, 1), 1);
        Due.is("row(19, 2)", x.row(19, 2), 100);
        Due.is("row(20, 0)", x.row(20, 0), -9);
        Due.is("judge(0) of more than 20", x.judge(0), 0);
        x.alterRow(19, 2, 101);
        Due.is("judge(0)", x.judge(0), 20);
        x.alterRow(19, 2, 100);
        x.trim(0, 0, 10);
        Due.is("judge(0) of just 20", x.judge(0), 0);
        x.trim(0, 0, 9);
        Due.is("judge(0) of 18", x.judge(0), 19);
        Due.is("prove(1)", x.prove(1), 18);
        Due.is("judge(0) of 18", x.judge(0), 0);
        x.trim(0, 0, 60);
        Due.is("judge(0) of 20 and 18 told", x.judge(0), 222);
        Due.is("prove(0)", x.prove(0), 20);
    }

    private static void draughtsOfSheets() {
        InchCandle x = new InchCandle();
        Due.is("draughts(0, 0, 0, 1)", x.draughts(0, 0, 0, 1), -11);
        x.sheet(0, 0, 14);
        for (int i = 0; i < 14; i++) {
            x.put(0, i, i - 5);
        }
        // -5, -4, -3, -2, -1, 0, 1, 2, 3, 4, 5, 6, 7, 8
        Due.is("draughts(0, 2, 3, 9)", x.draughts(0, 2, 3, 9), 9);
        int[] want = {0, 0, 0, 0, 0, 0, 0, 1, 2, 3, 3, 3};
        for (int place = 0; place < 12; place++) {
            Due.is("draught(" + place + ")", x.draught(place, 1), want[place]);
        }
        Due.is("draughts(0, 2, 0, 12)", x.draughts(0, 2, 0, 12), 12);
        Due.is("draughts(0, 3, 0, 12)", x.draughts(0, 3, 0, 12), -12);
        Due.is("draughts(0, -1, 0, 12)", x.draughts(0, -1, 0, 12), -12);
        Due.is("draughts(0, 2147483647, 0, 12)", x.draughts(0, Integer.MAX_VALUE, 0, 12), -12);
        Due.is("draughts(0, -2147483648, 0, 0)", x.draughts(0, Integer.MIN_VALUE, 0, 0), -12);
        Due.is("draughts(0, 14, 11, 0)", x.draughts(0, 14, 11, 0), 0);
        Due.is("draughts(0, 15, 11, 0)", x.draughts(0, 15, 11, 0), -12);
        Due.is("draughts(0, 0, 12, 0)", x.draughts(0, 0, 12, 0), -1);
        Due.is("draughts(0, 0, -1, 1)", x.draughts(0, 0, -1, 1), -1);
        Due.is("draughts(0, 0, 0, 13)", x.draughts(0, 0, 0, 13), -1);
        Due.is("draughts(0, 0, 0, -1)", x.draughts(0, 0, 0, -1), -1);
        Due.is("draughts(0, 0, 11, 1)", x.draughts(0, 0, 11, 1), 1);
        Due.is("draughts(0, 0, 11, 2)", x.draughts(0, 0, 11, 2), -1);
        Due.is("draughts(4, 0, 0, 1)", x.draughts(4, 0, 0, 1), -1);
        Due.is("draughts(-1, 0, 0, 1)", x.draughts(-1, 0, 0, 1), -1);
        for (int sort = 1; sort <= 3; sort++) {
            x.sheet(sort, sort, 5);
            Due.is("draughts of sort " + sort, x.draughts(sort, 0, 0, 1), -13);
            Due.is("-13 ahead of -12", x.draughts(sort, 9, 0, 1), -13);
            Due.is("BAD ahead of -13", x.draughts(sort, 9, 12, 1), -1);
        }
        x.sheet(0, -1, 0);
        Due.is("BAD ahead of -11", x.draughts(0, 0, 0, 13), -1);
        Due.is("draughts(0, 0, 0, 0)", x.draughts(0, 0, 0, 0), -11);
        Due.is("a DRAUGHT that stays", x.draught(11, 0), 0);
        Due.is("a DRAUGHT that stays", x.draught(10, 0), 3);
    }
}
