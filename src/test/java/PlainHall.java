import java.util.ArrayList;
import java.util.List;

/** A second telling of TRIALS, as plain as can be, that CrossTest compares the program with. */
final class PlainHall {
    final List<int[]> lots = new ArrayList<>();
    final List<int[]> bidders = new ArrayList<>();
    final int[] draughts = new int[12];
    int step = 5;
    int muted = -1;
    /** Of the latest trial: TICK, who, HIGH of each CALL. */
    final List<int[]> calls = new ArrayList<>();

    /** TICKS, who (-9: nobody), PRICE; purses go down if paid. */
    int[] trial(int lot, boolean paid) {
        int wax = lots.get(lot)[0];
        int burnt = 0;
        int high = 0;
        int holder = -9;
        int tick = 0;
        calls.clear();
        while (burnt < wax) {
            int burns = 1 + draughts[tick % 12];
            for (int b = 0; b < bidders.size(); b++) {
                int sum = high + raise(b);
                if (b != holder && b != muted && sum <= limit(b, lot) && ready(b, tick, wax - burnt, burns, high)) {
                    high = sum;
                    holder = b;
                    calls.add(new int[] {tick, b, high});
                }
            }
            burnt += burns;
            tick++;
        }
        if (paid && holder >= 0) {
            bidders.get(holder)[3] = Math.max(0, bidders.get(holder)[3] - high);
        }
        return new int[] {tick, holder, high};
    }

    int limit(int b, int lot) {
        int[] bidder = bidders.get(b);
        int limit = bidder[2] * lots.get(lot)[1] / 100;
        if (limit > bidder[3]) {
            limit = bidder[3];
        }
        if (bidder[0] == 4) {
            limit = limit * 9 / 10;
        }
        return limit;
    }

    private int raise(int b) {
        int kind = bidders.get(b)[0];
        return kind == 2 || kind == 4 ? 2 * step + bidders.get(b)[1] : step;
    }

    private boolean ready(int b, int tick, int left, int burns, int high) {
        int a = bidders.get(b)[1];
        boolean every = tick % (a + 1) == 0;
        switch (bidders.get(b)[0]) {
            case 1: return every && left <= 3 * a;
            case 3: return every && left <= 3 * a && high > 0;
            case 5: return left == burns || left < burns;
            default: return every;
        }
    }

    int patience(int b, int lot) {
        int was = bidders.get(b)[1];
        int best = -3;
        int price = Integer.MAX_VALUE;
        for (int a = 9; a >= 0; a--) {
            bidders.get(b)[1] = a;
            int[] end = trial(lot, false);
            if (end[1] == b && end[2] <= price) {
                best = a;
                price = end[2];
            }
        }
        bidders.get(b)[1] = was;
        return best;
    }

    int gust(int b, int lot) {
        int best = -3;
        int price = Integer.MAX_VALUE;
        for (int gust = 113; gust >= 0; gust--) {
            if (gust % 10 > 3) {
                continue;
            }
            int was = draughts[gust / 10];
            draughts[gust / 10] = gust % 10;
            int[] end = trial(lot, false);
            if (end[1] == b && end[2] <= price) {
                best = gust;
                price = end[2];
            }
            draughts[gust / 10] = was;
        }
        return best;
    }

    /** BEST WAX and the PRICE with it. */
    int[] wax(int lot) {
        int was = lots.get(lot)[0];
        int[] best = {0, -1};
        for (int wax = 60; wax >= 1; wax--) {
            lots.get(lot)[0] = wax;
            int price = trial(lot, false)[2];
            if (price >= best[1]) {
                best = new int[] {wax, price};
            }
        }
        lots.get(lot)[0] = was;
        return best;
    }

    int silent(int lot) {
        int best = -3;
        int price = Integer.MAX_VALUE;
        for (int b = bidders.size() - 1; b >= 0; b--) {
            muted = b;
            int[] end = trial(lot, false);
            if (end[1] != -9 && end[2] <= price) {
                best = b;
                price = end[2];
            }
        }
        muted = -1;
        return best;
    }

    /** The sum of PRICES, and the row of LOTS behind it; all LOTS unsold. */
    int[] order() {
        int[] best = new int[lots.size() + 1];
        best[0] = -1;
        tryOrders(new ArrayList<>(), 0, best);
        return best;
    }

    private void tryOrders(List<Integer> row, int sum, int[] best) {
        if (row.size() == lots.size()) {
            if (sum > best[0]) {
                best[0] = sum;
                for (int i = 0; i < row.size(); i++) {
                    best[i + 1] = row.get(i);
                }
            }
            return;
        }
        for (int lot = 0; lot < lots.size(); lot++) {
            if (!row.contains(lot)) {
                int[] purses = new int[bidders.size()];
                for (int b = 0; b < purses.length; b++) {
                    purses[b] = bidders.get(b)[3];
                }
                row.add(lot);
                tryOrders(row, sum + trial(lot, true)[2], best);
                row.remove(row.size() - 1);
                for (int b = 0; b < purses.length; b++) {
                    bidders.get(b)[3] = purses[b];
                }
            }
        }
    }
}
