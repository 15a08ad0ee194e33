import java.util.ArrayList;
import java.util.List;

/**
 * A second telling of the whole document, call by call and as plain as can be, that RunsTest compares the
 * program with. What a call asks for is told in the document's words; refusals stand in the promise's order.
 */
public final class PlainCandle {
    /** All that keep() keeps. */
    private static final class State {
        List<int[]> lots = new ArrayList<>();
        List<int[]> bidders = new ArrayList<>();
        int[] draughts = new int[12];
        int step = 5;
        int z = 1;
        int lot = -9;
        int tick;
        int burnt;
        int high;
        int holder = -9;
        /** In a TRIAL: one who never CALLS. */
        int silent = -9;
        /** Of a TRIAL: its CALLS. */
        List<int[]> calls = new ArrayList<>();

        State copy() {
            State copy = new State();
            lots.forEach(row -> copy.lots.add(row.clone()));
            bidders.forEach(row -> copy.bidders.add(row.clone()));
            copy.draughts = draughts.clone();
            copy.step = step;
            copy.z = z;
            copy.lot = lot;
            copy.tick = tick;
            copy.burnt = burnt;
            copy.high = high;
            copy.holder = holder;
            return copy;
        }
    }

    // a LOT's row
    private static final int WAX = 0, WORTH = 1, SOLD = 2, PRICE = 3, WHO = 4;
    // a BIDDER's row
    private static final int KIND = 0, A = 1, VALUE = 2, PURSE = 3;

    private State hall = new State();
    private State kept = null;
    private String tape = "";
    private List<int[]> rows = new ArrayList<>();
    private final Object[] sheets = new Object[4];
    /** An Integer for a BIDDER, or a row. */
    private final Object[] shelves = new Object[4];
    private List<Integer> trace = new ArrayList<>();

    private static boolean out(int v, int least, int most) {
        return v < least || v > most;
    }

    private boolean noLot(int lot) {
        return out(lot, 0, hall.lots.size() - 1);
    }

    private boolean noBidder(int bidder) {
        return out(bidder, 0, hall.bidders.size() - 1);
    }

    private boolean noTrial(int lot) {
        return noLot(lot) || hall.lots.get(lot)[SOLD] == 1;
    }

    public int feed(long eight, int n) {
        if (out(n, 1, 8)) {
            return -1;
        }
        if (tape.length() + n > 200) {
            return -2;
        }
        for (int i = 0; i < n; i++) {
            tape += (char) (eight % 256 < 0 ? eight % 256 + 256 : eight % 256);
            eight = Math.floorDiv(eight, 256L);
        }
        return tape.length();
    }

    public int hall() {
        PlainText text = new PlainText(tape);
        tape = "";
        if (text.fault >= 0) {
            return -100 - text.fault;
        }
        State told = new State();
        for (int[] lot : text.lots) {
            told.lots.add(new int[] {lot[0], lot[1], 0, -9, -9});
        }
        told.bidders = text.bidders;
        told.draughts = text.draughts;
        told.step = text.step;
        told.z = hall.z;
        hall = told;
        rows = new ArrayList<>();
        return hall.lots.size();
    }

    public int lot(int wax, int worth) {
        if (out(wax, 1, 60) || out(worth, 1, 99)) {
            return -1;
        }
        if (hall.lots.size() == 5) {
            return -2;
        }
        hall.lots.add(new int[] {wax, worth, 0, -9, -9});
        return hall.lots.size() - 1;
    }

    public int lotOf(int lot, int what) {
        return noLot(lot) || out(what, 0, 4) ? -1 : hall.lots.get(lot)[what];
    }

    public int trim(int lot, int what, int v) {
        if (noLot(lot) || out(what, 0, 1) || out(v, 1, what == 0 ? 60 : 99)) {
            return -1;
        }
        if (hall.lots.get(lot)[SOLD] == 1 || lot == hall.lot) {
            return -4;
        }
        int was = hall.lots.get(lot)[what];
        hall.lots.get(lot)[what] = v;
        return was;
    }

    public int draught(int place, int v) {
        if (out(place, 0, 11) || out(v, 0, 3)) {
            return -1;
        }
        int was = hall.draughts[place];
        hall.draughts[place] = v;
        return was;
    }

    public int step(int v) {
        if (out(v, 1, 20)) {
            return -1;
        }
        int was = hall.step;
        hall.step = v;
        return was;
    }

    public int bidder(int kind, int a, int value, int purse) {
        if (out(kind, 0, 5) || out(a, 0, 9) || out(value, 0, 999) || out(purse, 0, 9999)) {
            return -1;
        }
        if (hall.bidders.size() == 6) {
            return -2;
        }
        hall.bidders.add(new int[] {kind, a, value, purse});
        return hall.bidders.size() - 1;
    }

    public int bidderOf(int bidder, int what) {
        if (noBidder(bidder) || out(what, 0, 4)) {
            return -1;
        }
        if (what < 4) {
            return hall.bidders.get(bidder)[what];
        }
        return (int) hall.lots.stream().filter(lot -> lot[SOLD] == 1 && lot[WHO] == bidder).count();
    }

    public int mind(int bidder, int kind, int a) {
        if (noBidder(bidder) || out(kind, 0, 5) || out(a, 0, 9)) {
            return -1;
        }
        int was = hall.bidders.get(bidder)[KIND];
        hall.bidders.get(bidder)[KIND] = kind;
        hall.bidders.get(bidder)[A] = a;
        return was;
    }

    public int purse(int bidder, int what, int v) {
        if (noBidder(bidder) || out(what, 0, 1) || out(v, 0, what == 0 ? 999 : 9999)) {
            return -1;
        }
        int was = hall.bidders.get(bidder)[VALUE + what];
        hall.bidders.get(bidder)[VALUE + what] = v;
        return was;
    }

    public int limit(int bidder, int lot) {
        return noBidder(bidder) || noLot(lot) ? -1 : limit(hall, bidder, lot);
    }

    private static int limit(State in, int bidder, int lot) {
        int[] b = in.bidders.get(bidder);
        int cut = Math.min(b[VALUE] * in.lots.get(lot)[WORTH] / 100, b[PURSE]);
        return b[KIND] == 4 ? 9 * cut / 10 : cut;
    }

    // ---- ticks

    /** The CALL, or 0. */
    private static int wouldCall(State in, int bidder) {
        int[] b = in.bidders.get(bidder);
        if (in.lot < 0 || in.holder == bidder || in.silent == bidder) {
            return 0;
        }
        int left = in.lots.get(in.lot)[WAX] - in.burnt;
        boolean plainly = in.tick % (b[A] + 1) == 0;
        boolean calls;
        int call = in.high + in.step;
        if (b[KIND] == 5) {
            calls = left <= 1 + in.draughts[in.tick % 12];
        } else if (b[KIND] == 1) {
            calls = plainly && left <= 3 * b[A];
        } else if (b[KIND] == 3) {
            calls = plainly && left <= 3 * b[A] && in.high > 0;
        } else {
            calls = plainly;
            if (b[KIND] != 0) {
                call = in.high + 2 * in.step + b[A];
            }
        }
        return calls && call <= limit(in, bidder, in.lot) ? call : 0;
    }

    private static void lightIn(State in, int lot) {
        in.lot = lot;
        in.tick = 0;
        in.burnt = 0;
        in.high = 0;
        in.holder = -9;
    }

    private static void tickIn(State in) {
        for (int b = 0; b < in.bidders.size(); b++) {
            int call = wouldCall(in, b);
            if (call > 0) {
                in.high = call;
                in.holder = b;
                in.calls.add(new int[] {in.tick, b, call});
            }
        }
        in.burnt += 1 + in.draughts[in.tick % 12];
        in.tick++;
        if (in.burnt >= in.lots.get(in.lot)[WAX]) {
            outIn(in);
        }
    }

    private static void outIn(State in) {
        int[] sold = in.lots.get(in.lot);
        sold[SOLD] = 1;
        sold[WHO] = in.holder;
        sold[PRICE] = in.holder < 0 ? 0 : in.high;
        if (in.holder >= 0) {
            int[] b = in.bidders.get(in.holder);
            b[PURSE] = Math.max(0, b[PURSE] - in.high);
        }
        in.lot = -9;
    }

    public int light(int lot) {
        if (noLot(lot)) {
            return -1;
        }
        if (hall.lots.get(lot)[SOLD] == 1 || hall.lot >= 0) {
            return -4;
        }
        lightIn(hall, lot);
        return 1;
    }

    public int now(int what) {
        if (out(what, 0, 6)) {
            return -1;
        }
        if (hall.lot < 0) {
            return what == 0 || what == 4 ? -9 : 0;
        }
        int left = hall.lots.get(hall.lot)[WAX] - hall.burnt;
        int burns = 1 + hall.draughts[hall.tick % 12];
        return new int[] {hall.lot, hall.tick, hall.burnt, hall.high, hall.holder, left, burns}[what];
    }

    public int would(int bidder) {
        return noBidder(bidder) ? -1 : wouldCall(hall, bidder);
    }

    public int ticks(int n) {
        if (out(n, 0, 60)) {
            return -1;
        }
        int went = 0;
        while (went < n && hall.lot >= 0) {
            tickIn(hall);
            went++;
        }
        return went;
    }

    public int call(int bidder, int v) {
        if (noBidder(bidder) || out(v, 1, 9999)) {
            return -1;
        }
        if (hall.lot < 0 || v <= hall.high || v > hall.bidders.get(bidder)[PURSE]) {
            return -4;
        }
        int was = hall.high;
        hall.high = v;
        hall.holder = bidder;
        return was;
    }

    public int snuff() {
        if (hall.lot < 0) {
            return -4;
        }
        outIn(hall);
        return hall.holder;
    }

    public int back(int lot) {
        if (noLot(lot)) {
            return -1;
        }
        int[] sold = hall.lots.get(lot);
        if (sold[SOLD] == 0) {
            return -4;
        }
        if (sold[WHO] >= 0) {
            int[] b = hall.bidders.get(sold[WHO]);
            b[PURSE] = Math.min(9999, b[PURSE] + sold[PRICE]);
        }
        hall.lots.set(lot, new int[] {sold[WAX], sold[WORTH], 0, -9, -9});
        return 1;
    }

    // ---- what would be

    /** The TRIAL goes on in the state that is given: TICKS, who, PRICE. */
    private static int[] trialIn(State in, int lot) {
        lightIn(in, lot);
        in.calls.clear();
        int ticks = 0;
        while (in.lot >= 0) {
            tickIn(in);
            ticks++;
        }
        return new int[] {ticks, in.lots.get(lot)[WHO], in.lots.get(lot)[PRICE]};
    }

    public int end(int lot) {
        return noTrial(lot) ? -1 : trialIn(hall.copy(), lot)[0];
    }

    public int wins(int lot, int what) {
        return noTrial(lot) || out(what, 0, 1) ? -1 : trialIn(hall.copy(), lot)[1 + what];
    }

    public int patience(int bidder, int lot) {
        if (noBidder(bidder) || noTrial(lot)) {
            return -1;
        }
        List<int[]> found = new ArrayList<>();
        for (int a = 0; a < 10; a++) {
            State would = hall.copy();
            would.bidders.get(bidder)[A] = a;
            int[] end = trialIn(would, lot);
            if (end[1] == bidder) {
                found.add(new int[] {end[2], a});
            }
        }
        return least(found);
    }

    public int gust(int bidder, int lot) {
        if (noBidder(bidder) || noTrial(lot)) {
            return -1;
        }
        List<int[]> found = new ArrayList<>();
        for (int place = 0; place < 12; place++) {
            for (int v = 0; v < 4; v++) {
                State would = hall.copy();
                would.draughts[place] = v;
                int[] end = trialIn(would, lot);
                if (end[1] == bidder) {
                    found.add(new int[] {end[2], 10 * place + v});
                }
            }
        }
        return least(found);
    }

    /** Of pairs (PRICE, which) the which of the least PRICE, of several the least; NONE. */
    private static int least(List<int[]> found) {
        found.sort((one, other) -> one[0] != other[0] ? one[0] - other[0] : one[1] - other[1]);
        return found.isEmpty() ? -3 : found.get(0)[1];
    }

    public int wax(int lot, int what) {
        if (noTrial(lot) || out(what, 0, 1)) {
            return -1;
        }
        List<int[]> found = new ArrayList<>();
        for (int wax = 1; wax <= 60; wax++) {
            State would = hall.copy();
            would.lots.get(lot)[WAX] = wax;
            found.add(new int[] {-trialIn(would, lot)[2], wax});
        }
        int best = least(found);
        return what == 0 ? best : -found.get(0)[0];
    }

    public int silent(int lot) {
        if (noTrial(lot)) {
            return -1;
        }
        List<int[]> found = new ArrayList<>();
        for (int b = 0; b < hall.bidders.size(); b++) {
            State would = hall.copy();
            would.silent = b;
            int[] end = trialIn(would, lot);
            if (end[1] != -9) {
                found.add(new int[] {end[2], b});
            }
        }
        return least(found);
    }

    public int order(int what) {
        if (what != 0 && out(what, 10, 14)) {
            return -1;
        }
        List<Integer> lots = new ArrayList<>();
        for (int lot = 0; lot < hall.lots.size(); lot++) {
            if (hall.lots.get(lot)[SOLD] == 0) {
                lots.add(lot);
            }
        }
        if (lots.isEmpty() || what - 10 >= lots.size()) {
            return -3;
        }
        List<Integer> best = bestOrder(hall.copy(), lots);
        return what == 0 ? best.get(0) : best.get(what - 9);
    }

    /** The greatest sum, and the first row of LOTS behind it. */
    private static List<Integer> bestOrder(State from, List<Integer> lots) {
        List<Integer> best = null;
        for (Integer first : lots) {
            State then = from.copy();
            int price = trialIn(then, first)[2];
            List<Integer> others = new ArrayList<>(lots);
            others.remove(first);
            List<Integer> row = bestOrder(then, others);
            row.set(0, row.get(0) + price);
            row.add(1, first);
            if (best == null || row.get(0) > best.get(0)) {
                best = row;
            }
        }
        return best == null ? new ArrayList<>(List.of(0)) : best;
    }

    public int most(int lot) {
        if (noLot(lot)) {
            return -1;
        }
        List<int[]> found = new ArrayList<>();
        for (int b = 0; b < hall.bidders.size(); b++) {
            found.add(new int[] {-limit(hall, b, lot), b});
        }
        return least(found);
    }

    public int owed(int what) {
        switch (what) {
            case 0: return hall.lots.stream().filter(lot -> lot[SOLD] == 1).mapToInt(lot -> lot[PRICE]).sum();
            case 1: return hall.bidders.stream().mapToInt(b -> b[PURSE]).sum();
            case 2: return (int) hall.lots.stream().filter(lot -> lot[SOLD] == 1 && lot[WHO] == -9).count();
            default: return -1;
        }
    }

    public int seed(int v) {
        int was = hall.z;
        hall.z = v;
        return was;
    }

    public int draw(int place) {
        if (out(place, 0, 11)) {
            return -1;
        }
        hall.z = (int) (hall.z * 1103515245L + 12345L);
        hall.draughts[place] = (int) ((hall.z & 0xffffffffL) / 65536 % 4);
        return hall.draughts[place];
    }

    // ---- rows

    private List<int[]> rowsOf(int lot) {
        State would = hall.copy();
        trialIn(would, lot);
        return new ArrayList<>(would.calls.subList(0, Math.min(20, would.calls.size())));
    }

    public int prove(int lot) {
        if (noTrial(lot)) {
            return -1;
        }
        rows = rowsOf(lot);
        return rows.size();
    }

    public int row(int i, int what) {
        return out(i, 0, rows.size() - 1) || out(what, 0, 2) ? -9 : rows.get(i)[what];
    }

    public int alterRow(int i, int what, int v) {
        int was = row(i, what);
        if (!out(i, 0, rows.size() - 1) && !out(what, 0, 2)) {
            rows.get(i)[what] = v;
        }
        return was;
    }

    public int judge(int lot) {
        if (noTrial(lot)) {
            return -1;
        }
        List<int[]> must = rowsOf(lot);
        for (int i = 0; i < rows.size(); i++) {
            if (i >= must.size() || !java.util.Arrays.equals(rows.get(i), must.get(i))) {
                return i + 1;
            }
        }
        return rows.size() < must.size() ? 222 : 0;
    }

    /** As Java itself would: what it throws is what the host refuses. */
    public int draughts(int sheet, int i, int place, int n) {
        if (out(sheet, 0, 3) || out(place, 0, 11) || out(n, 0, 12) || place + n > 12) {
            return -1;
        }
        try {
            byte[] bytes = (byte[]) sheets[sheet];
            if (bytes == null) {
                return -11;
            }
            byte[] some = new byte[n];
            System.arraycopy(bytes, i, some, 0, n);
            for (int k = 0; k < n; k++) {
                hall.draughts[place + k] = some[k] < 0 ? 0 : some[k] > 3 ? 3 : some[k];
            }
            return n;
        } catch (ClassCastException e) {
            return -13;
        } catch (IndexOutOfBoundsException e) {
            return -12;
        }
    }

    // ---- the host

    public int sheet(int sheet, int sort, int n) {
        if (out(sheet, 0, 3) || out(sort, -1, 3) || sort >= 0 && n > 40) {
            return -1;
        }
        if (sort >= 0 && n < 0) {
            return -14;
        }
        switch (sort) {
            case 0: sheets[sheet] = new byte[n]; break;
            case 1: sheets[sheet] = new short[n]; break;
            case 2: sheets[sheet] = new int[n]; break;
            case 3: sheets[sheet] = new long[n]; break;
            default: sheets[sheet] = null; break;
        }
        return 1;
    }

    public int put(int sheet, int i, int v) {
        if (out(sheet, 0, 3)) {
            return -1;
        }
        Object row = sheets[sheet];
        if (row == null) {
            return -11;
        }
        try {
            if (row instanceof byte[]) {
                ((byte[]) row)[i] = (byte) v;
            } else if (row instanceof short[]) {
                ((short[]) row)[i] = (short) v;
            } else if (row instanceof int[]) {
                ((int[]) row)[i] = v;
            } else {
                ((long[]) row)[i] = v;
            }
            return 1;
        } catch (IndexOutOfBoundsException e) {
            return -12;
        }
    }

    public int item(int sheet, int sort, int i) {
        if (out(sheet, 0, 3) || out(sort, 0, 3)) {
            return -1;
        }
        Object row = sheets[sheet];
        if (row == null) {
            return -11;
        }
        try {
            switch (sort) {
                case 0: return ((byte[]) row)[i];
                case 1: return ((short[]) row)[i];
                case 2: return ((int[]) row)[i];
                default: return (int) ((long[]) row)[i];
            }
        } catch (ClassCastException e) {
            return -13;
        } catch (IndexOutOfBoundsException e) {
            return -12;
        }
    }

    public int shelf(int shelf, int what, int n) {
        if (out(shelf, 0, 3) || out(what, 0, 2) || what == 0 && noBidder(n) || what == 1 && out(n, 0, 3)) {
            return -1;
        }
        shelves[shelf] = what == 0 ? (Object) n : what == 1 ? sheets[n] : null;
        return 1;
    }

    /** The number of the BIDDER on a SHELF; -9: a row, or nothing. */
    private int bidderOn(int shelf) {
        Object held = shelves[shelf];
        return held instanceof Integer && !noBidder((Integer) held) ? (Integer) held : -9;
    }

    public int taken(int shelf, int as) {
        if (out(shelf, 0, 3) || out(as, 0, 5) && out(as, 10, 13)) {
            return -1;
        }
        Object held = shelves[shelf];
        int bidder = bidderOn(shelf);
        if (held == null || held instanceof Integer && bidder < 0) {
            return -11;
        }
        if (held instanceof Integer) {
            return as < 6 && PlainThings.is(hall.bidders.get(bidder)[KIND], as) ? bidder : -13;
        }
        List<Class<?>> sorts = List.of(byte[].class, short[].class, int[].class, long[].class);
        return sorts.indexOf(held.getClass()) == as - 10 ? java.lang.reflect.Array.getLength(held) : -13;
    }

    public int act(int shelf, int act, int x) {
        trace = new ArrayList<>();
        int bidder = out(shelf, 0, 3) ? -9 : bidderOn(shelf);
        if (bidder < 0 || out(act, 0, 3)) {
            return 0;
        }
        int[] b = hall.bidders.get(bidder);
        int answer = PlainThings.act(PlainThings.of(b[KIND], bidder, b[A]), act, x);
        trace = new ArrayList<>(PlainThings.trace);
        return answer;
    }

    public int trace(int i) {
        return out(i, 0, Math.min(30, trace.size()) - 1) ? -3 : trace.get(i);
    }

    public int many(int what) {
        switch (what) {
            case 0: return hall.lots.size();
            case 1: return hall.bidders.size();
            case 2: return (int) hall.lots.stream().filter(lot -> lot[SOLD] == 1).count();
            case 3: return rows.size();
            case 4: return tape.length();
            case 5: return Math.min(30, trace.size());
            default: return -1;
        }
    }

    // ---- kept

    public int keep() {
        kept = hall.copy();
        return 1;
    }

    public int again() {
        if (kept == null) {
            return -3;
        }
        hall = kept.copy();
        return hall.lots.size();
    }
}
