/** Promises 13, 16, 17 and 21 to 35 over many halls, against the plain second telling of them. */
public final class CrossTest {
    private static long state = 20261120;

    public static void main(String[] args) {
        for (int i = 0; i < 1500; i++) {
            oneHall(i);
        }
        Due.end("CrossTest");
    }

    /** 0 to below - 1; the same row of numbers each time. */
    private static int any(int below) {
        state = state * 6364136223846793005L + 1442695040888963407L;
        return (int) ((state >>> 33) % below);
    }

    private static void oneHall(int i) {
        InchCandle x = new InchCandle();
        PlainHall plain = new PlainHall();
        int lots = 1 + any(5);
        int bidders = any(7);
        boolean small = any(3) == 0;
        for (int lot = 0; lot < lots; lot++) {
            int[] told = {1 + any(small ? 12 : 60), 1 + any(99)};
            plain.lots.add(told);
            x.lot(told[0], told[1]);
        }
        for (int b = 0; b < bidders; b++) {
            int[] told = {any(6), any(10), any(small ? 60 : 1000), any(3) == 0 ? any(80) : any(small ? 200 : 10000)};
            plain.bidders.add(told);
            x.bidder(told[0], told[1], told[2], told[3]);
        }
        for (int k = any(12); k > 0; k--) {
            int place = any(12);
            plain.draughts[place] = any(4);
            x.draught(place, plain.draughts[place]);
        }
        plain.step = 1 + any(20);
        x.step(plain.step);
        String hall = "hall " + i + ": ";
        for (int lot = 0; lot < lots; lot++) {
            trials(hall, x, plain, lot);
        }
        order(hall, x, plain);
        live(hall, x, plain, any(lots));
    }

    private static void trials(String hall, InchCandle x, PlainHall plain, int lot) {
        int[] end = plain.trial(lot, false);
        Due.is(hall + "end", x.end(lot), end[0]);
        Due.is(hall + "who", x.wins(lot, 0), end[1]);
        Due.is(hall + "price", x.wins(lot, 1), end[2]);
        rows(hall, x, plain, lot);
        for (int b = 0; b < plain.bidders.size(); b++) {
            Due.is(hall + "limit", x.limit(b, lot), plain.limit(b, lot));
            Due.is(hall + "patience", x.patience(b, lot), plain.patience(b, lot));
            Due.is(hall + "gust", x.gust(b, lot), plain.gust(b, lot));
        }
        int[] best = plain.wax(lot);
        Due.is(hall + "wax", x.wax(lot, 0), best[0]);
        Due.is(hall + "price with it", x.wax(lot, 1), best[1]);
        Due.is(hall + "silent", x.silent(lot), plain.silent(lot));
    }

    private static void rows(String hall, InchCandle x, PlainHall plain, int lot) {
        int rows = Math.min(20, plain.calls.size());
        Due.is(hall + "prove", x.prove(lot), rows);
        for (int i = 0; i < rows; i++) {
            for (int what = 0; what < 3; what++) {
                Due.is(hall + "row", x.row(i, what), plain.calls.get(i)[what]);
            }
        }
        Due.is(hall + "judge", x.judge(lot), 0);
        if (rows > 0) {
            int i = any(rows);
            int what = any(3);
            int was = x.alterRow(i, what, plain.calls.get(i)[what] + 1 + any(5));
            Due.is(hall + "judge of one altered", x.judge(lot), i + 1);
            x.alterRow(i, what, was);
        }
    }

    private static void order(String hall, InchCandle x, PlainHall plain) {
        int[] best = plain.order();
        Due.is(hall + "order(0)", x.order(0), best[0]);
        for (int i = 0; i < 5; i++) {
            Due.is(hall + "order(" + (10 + i) + ")", x.order(10 + i), i + 1 < best.length ? best[i + 1] : -3);
        }
    }

    /** The same candle, TICK by TICK in the hall itself. */
    private static void live(String hall, InchCandle x, PlainHall plain, int lot) {
        int[] end = plain.trial(lot, true);
        Due.is(hall + "light", x.light(lot), 1);
        int at = 0;
        for (int tick = 0; tick < end[0]; tick++) {
            Due.is(hall + "TICK", x.now(1), tick);
            int first = at;
            while (at < plain.calls.size() && plain.calls.get(at)[0] == tick) {
                at++;
            }
            if (at > first) {
                int[] call = plain.calls.get(first);
                Due.is(hall + "would of the first", x.would(call[1]), call[2]);
            }
            Due.is(hall + "ticks(1)", x.ticks(1), 1);
            if (tick < end[0] - 1) {
                Due.is(hall + "HIGH", x.now(3), at == 0 ? 0 : plain.calls.get(at - 1)[2]);
                Due.is(hall + "HOLDER", x.now(4), at == 0 ? -9 : plain.calls.get(at - 1)[1]);
            }
        }
        Due.is(hall + "no LOT", x.now(0), -9);
        Due.is(hall + "PRICE", x.lotOf(lot, 3), end[2]);
        Due.is(hall + "to whom", x.lotOf(lot, 4), end[1]);
        for (int b = 0; b < plain.bidders.size(); b++) {
            Due.is(hall + "PURSE", x.bidderOf(b, 3), plain.bidders.get(b)[3]);
        }
    }
}
