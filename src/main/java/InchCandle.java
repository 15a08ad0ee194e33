/**
 * An auction by inch of candle: a lot is sold to whoever called last ahead of the flame going out.
 * What each call does and answers is told, promise by promise, in ../shared/DOC.md.
 *
 * <p>All rows and objects are made once, with the object itself, and used again by every call.
 */
public final class InchCandle {
    public static final int BAD = -1, FULL = -2, NONE = -3, STATE = -4;

    private static final int NOTHING_ASKED = -11, OUTSIDE = -12, OTHER_SORT = -13;
    private static final int SIZE_BELOW_0 = -14, PARTED_BY_0 = -15;
    private static final int NOBODY = -9, NOTHING = -9;
    private static final int MOST_LOTS = 5, MOST_BIDDERS = 6, PLACES = 12;
    private static final int MOST_WAX = 60, MOST_WORTH = 99, MOST_STEP = 20, FIRST_STEP = 5, MOST_DRAUGHT = 3;
    private static final int MOST_A = 9, MOST_VALUE = 999, MOST_PURSE = 9999;
    /** A TICK burns 1 at least, so that no candle lasts for more of them than it may have WAX. */
    private static final int MOST_TICKS = MOST_WAX;
    private static final int SHEETS = 4, SHELVES = 4;

    private static final int PLAIN = 0, LATE = 1, LEAPER = 2, SNIPER = 3, BROKER = 4, BLIND = 5;
    private static final int KINDS = 6;

    private final Hall hall = new Hall();
    private final Hall kept = new Hall();
    private boolean anyKept = false;
    private final Hall draft = new Hall();
    private final Tape tape = new Tape();
    private final Trials trials = new Trials();
    private final Rows rows = new Rows();
    private final Rows rightRows = new Rows();
    private final Sheet[] sheets = new Sheet[SHEETS];
    private final Shelf[] shelves = new Shelf[SHELVES];
    private final Deed deed = new Deed();

    public InchCandle() {
        for (int i = 0; i < SHEETS; i++) {
            sheets[i] = new Sheet();
        }
        for (int i = 0; i < SHELVES; i++) {
            shelves[i] = new Shelf();
        }
    }

    // ---- the hall

    public int feed(long eight, int n) {
        if (!within(n, 1, 8)) {
            return BAD;
        }
        return tape.takes(eight, n);
    }

    public int hall() {
        draft.clear();
        int fault = tape.readInto(draft);
        tape.clear();
        if (fault != NONE) {
            return -100 - fault;
        }
        draft.z = hall.z;
        hall.copy(draft);
        rows.clear();
        return hall.lotCount;
    }

    public int lot(int wax, int worth) {
        if (!within(wax, 1, MOST_WAX) || !within(worth, 1, MOST_WORTH)) {
            return BAD;
        }
        return hall.addLot(wax, worth);
    }

    public int lotOf(int lot, int what) {
        Lot asked = hall.lotAt(lot);
        if (asked == null) {
            return BAD;
        }
        switch (what) {
            case 0: return asked.wax;
            case 1: return asked.worth;
            case 2: return asked.sold ? 1 : 0;
            case 3: return asked.price;
            case 4: return asked.buyer;
            default: return BAD;
        }
    }

    public int trim(int lot, int what, int v) {
        Lot trimmed = hall.lotAt(lot);
        if (trimmed == null || !within(what, 0, 1)) {
            return BAD;
        }
        if (!within(v, 1, what == 0 ? MOST_WAX : MOST_WORTH)) {
            return BAD;
        }
        if (trimmed.sold || hall.theLot == lot) {
            return STATE;
        }
        int was = what == 0 ? trimmed.wax : trimmed.worth;
        if (what == 0) {
            trimmed.wax = v;
        } else {
            trimmed.worth = v;
        }
        return was;
    }

    public int draught(int place, int v) {
        if (!within(place, 0, PLACES - 1) || !within(v, 0, MOST_DRAUGHT)) {
            return BAD;
        }
        int was = hall.draughts[place];
        hall.draughts[place] = v;
        return was;
    }

    public int step(int v) {
        if (!within(v, 1, MOST_STEP)) {
            return BAD;
        }
        int was = hall.step;
        hall.step = v;
        return was;
    }

    public int bidder(int kind, int a, int value, int purse) {
        if (!within(kind, 0, KINDS - 1) || !within(a, 0, MOST_A)
                || !within(value, 0, MOST_VALUE) || !within(purse, 0, MOST_PURSE)) {
            return BAD;
        }
        return hall.addBidder(kind, a, value, purse);
    }

    public int bidderOf(int bidder, int what) {
        Bidder asked = hall.bidderAt(bidder);
        if (asked == null) {
            return BAD;
        }
        switch (what) {
            case 0: return asked.kind;
            case 1: return asked.a;
            case 2: return asked.value;
            case 3: return asked.purse;
            case 4: return hall.lotsSoldTo(bidder);
            default: return BAD;
        }
    }

    public int mind(int bidder, int kind, int a) {
        Bidder minded = hall.bidderAt(bidder);
        if (minded == null || !within(kind, 0, KINDS - 1) || !within(a, 0, MOST_A)) {
            return BAD;
        }
        int was = minded.kind;
        minded.kind = kind;
        minded.a = a;
        return was;
    }

    public int purse(int bidder, int what, int v) {
        Bidder owner = hall.bidderAt(bidder);
        if (owner == null || !within(what, 0, 1)) {
            return BAD;
        }
        if (!within(v, 0, what == 0 ? MOST_VALUE : MOST_PURSE)) {
            return BAD;
        }
        int was = what == 0 ? owner.value : owner.purse;
        if (what == 0) {
            owner.value = v;
        } else {
            owner.purse = v;
        }
        return was;
    }

    public int limit(int bidder, int lot) {
        Bidder asked = hall.bidderAt(bidder);
        Lot valued = hall.lotAt(lot);
        if (asked == null || valued == null) {
            return BAD;
        }
        return asked.limitFor(valued.worth);
    }

    // ---- ticks

    public int light(int lot) {
        Lot chosen = hall.lotAt(lot);
        if (chosen == null) {
            return BAD;
        }
        if (chosen.sold || hall.burning() != null) {
            return STATE;
        }
        hall.setAlight(lot);
        return 1;
    }

    public int now(int what) {
        if (!within(what, 0, 6)) {
            return BAD;
        }
        Lot burning = hall.burning();
        if (burning == null) {
            return what == 0 || what == 4 ? NOTHING : 0;
        }
        switch (what) {
            case 0: return hall.theLot;
            case 1: return hall.tick;
            case 2: return hall.burnt;
            case 3: return hall.high;
            case 4: return hall.holder;
            case 5: return burning.wax - hall.burnt;
            default: return hall.burnsNow();
        }
    }

    public int would(int bidder) {
        if (hall.bidderAt(bidder) == null) {
            return BAD;
        }
        return hall.callOf(bidder);
    }

    public int ticks(int n) {
        if (!within(n, 0, MOST_TICKS)) {
            return BAD;
        }
        return hall.goTicks(n, null);
    }

    public int call(int bidder, int v) {
        Bidder caller = hall.bidderAt(bidder);
        if (caller == null || !within(v, 1, MOST_PURSE)) {
            return BAD;
        }
        if (hall.burning() == null || v <= hall.high || v > caller.purse) {
            return STATE;
        }
        int was = hall.high;
        hall.takeCall(bidder, v, null);
        return was;
    }

    public int snuff() {
        Lot burning = hall.burning();
        if (burning == null) {
            return STATE;
        }
        hall.putOut();
        return burning.buyer;
    }

    public int back(int lot) {
        Lot returned = hall.lotAt(lot);
        if (returned == null) {
            return BAD;
        }
        if (!returned.sold) {
            return STATE;
        }
        Bidder buyer = hall.bidderAt(returned.buyer);
        if (buyer != null) {
            buyer.purse = Math.min(buyer.purse + returned.price, MOST_PURSE);
        }
        returned.unsell();
        return 1;
    }

    // ---- what would be

    public int end(int lot) {
        if (hall.unsoldAt(lot) == null) {
            return BAD;
        }
        return trials.burnAnew(hall, lot, null);
    }

    public int wins(int lot, int what) {
        if (hall.unsoldAt(lot) == null || !within(what, 0, 1)) {
            return BAD;
        }
        trials.burnAnew(hall, lot, null);
        return what == 0 ? trials.winner(lot) : trials.price(lot);
    }

    public int patience(int bidder, int lot) {
        if (hall.bidderAt(bidder) == null || hall.unsoldAt(lot) == null) {
            return BAD;
        }
        return trials.bestPatience(hall, bidder, lot);
    }

    public int gust(int bidder, int lot) {
        if (hall.bidderAt(bidder) == null || hall.unsoldAt(lot) == null) {
            return BAD;
        }
        return trials.bestGust(hall, bidder, lot);
    }

    public int wax(int lot, int what) {
        if (hall.unsoldAt(lot) == null || !within(what, 0, 1)) {
            return BAD;
        }
        int best = trials.bestWax(hall, lot);
        return what == 0 ? best : trials.bestPrice;
    }

    public int silent(int lot) {
        if (hall.unsoldAt(lot) == null) {
            return BAD;
        }
        return trials.bestSilent(hall, lot);
    }

    public int order(int what) {
        if (what != 0 && !within(what, 10, 10 + MOST_LOTS - 1)) {
            return BAD;
        }
        int lots = hall.lotCount - hall.soldLots();
        if (lots == 0 || what - 10 >= lots) {
            return NONE;
        }
        trials.findBestOrder(hall);
        return what == 0 ? trials.bestPrice : trials.lotInBestOrder(what - 10);
    }

    public int most(int lot) {
        Lot valued = hall.lotAt(lot);
        if (valued == null) {
            return BAD;
        }
        return hall.bidderOfMost(valued.worth);
    }

    public int owed(int what) {
        switch (what) {
            case 0: return hall.allPrices();
            case 1: return hall.allPurses();
            case 2: return hall.lotsSoldTo(NOBODY);
            default: return BAD;
        }
    }

    public int seed(int v) {
        int was = hall.z;
        hall.z = v;
        return was;
    }

    public int draw(int place) {
        if (!within(place, 0, PLACES - 1)) {
            return BAD;
        }
        hall.z = hall.z * 1103515245 + 12345;
        hall.draughts[place] = (hall.z >>> 16) % (MOST_DRAUGHT + 1);
        return hall.draughts[place];
    }

    // ---- rows

    public int prove(int lot) {
        if (hall.unsoldAt(lot) == null) {
            return BAD;
        }
        rows.clear();
        trials.burnAnew(hall, lot, rows);
        return rows.count;
    }

    public int row(int i, int what) {
        return rows.has(i, what) ? rows.cell(i, what) : NOTHING;
    }

    public int alterRow(int i, int what, int v) {
        if (!rows.has(i, what)) {
            return NOTHING;
        }
        int was = rows.cell(i, what);
        rows.setCell(i, what, v);
        return was;
    }

    public int judge(int lot) {
        if (hall.unsoldAt(lot) == null) {
            return BAD;
        }
        rightRows.clear();
        trials.burnAnew(hall, lot, rightRows);
        return rows.judgedBy(rightRows);
    }

    public int draughts(int sheet, int i, int place, int n) {
        Sheet read = sheetAt(sheet);
        if (read == null || !within(place, 0, PLACES - 1) || !within(n, 0, PLACES - place)) {
            return BAD;
        }
        if (read.isMissing()) {
            return NOTHING_ASKED;
        }
        if (read.sort != Sheet.BYTES) {
            return OTHER_SORT;
        }
        // i + n could wrap round, size - n can't
        if (i < 0 || i > read.size - n) {
            return OUTSIDE;
        }
        for (int k = 0; k < n; k++) {
            hall.draughts[place + k] = Math.max(0, Math.min(MOST_DRAUGHT, read.itemAt(i + k)));
        }
        return n;
    }

    // ---- the host

    public int sheet(int sheet, int sort, int n) {
        Sheet made = sheetAt(sheet);
        if (made == null || !within(sort, Sheet.MISSING, Sheet.LONGS)) {
            return BAD;
        }
        if (sort == Sheet.MISSING) {
            made.remake(sort, 0);
            return 1;
        }
        if (n > Sheet.MOST_ITEMS) {
            return BAD;
        }
        if (n < 0) {
            return SIZE_BELOW_0;
        }
        made.remake(sort, n);
        return 1;
    }

    public int put(int sheet, int i, int v) {
        Sheet written = sheetAt(sheet);
        if (written == null) {
            return BAD;
        }
        if (written.isMissing()) {
            return NOTHING_ASKED;
        }
        if (!written.has(i)) {
            return OUTSIDE;
        }
        written.setItem(i, v);
        return 1;
    }

    public int item(int sheet, int sort, int i) {
        Sheet read = sheetAt(sheet);
        if (read == null || !within(sort, Sheet.BYTES, Sheet.LONGS)) {
            return BAD;
        }
        if (read.isMissing()) {
            return NOTHING_ASKED;
        }
        if (read.sort != sort) {
            return OTHER_SORT;
        }
        if (!read.has(i)) {
            return OUTSIDE;
        }
        return read.itemAt(i);
    }

    public int shelf(int shelf, int what, int n) {
        Shelf filled = shelfAt(shelf);
        if (filled == null) {
            return BAD;
        }
        switch (what) {
            case 0:
                if (hall.bidderAt(n) == null) {
                    return BAD;
                }
                filled.holdBidder(n);
                return 1;
            case 1:
                Sheet sheet = sheetAt(n);
                if (sheet == null) {
                    return BAD;
                }
                filled.holdRow(sheet);
                return 1;
            case 2:
                filled.holdNothing();
                return 1;
            default:
                return BAD;
        }
    }

    public int taken(int shelf, int as) {
        Shelf asked = shelfAt(shelf);
        boolean asRow = within(as, 10 + Sheet.BYTES, 10 + Sheet.LONGS);
        if (asked == null || !asRow && !within(as, 0, KINDS - 1)) {
            return BAD;
        }
        if (asked.holdsRow()) {
            return asRow && asked.sort == as - 10 ? asked.size : OTHER_SORT;
        }
        Bidder held = hall.bidderAt(asked.bidder);
        if (held == null) {
            return NOTHING_ASKED;
        }
        return !asRow && isUnder(held.kind, as) ? asked.bidder : OTHER_SORT;
    }

    public int act(int shelf, int act, int x) {
        deed.clear();
        Shelf asked = shelfAt(shelf);
        if (asked == null || asked.holdsRow() || !within(act, 0, 3)) {
            return 0;
        }
        Bidder actor = hall.bidderAt(asked.bidder);
        if (actor == null) {
            return 0;
        }
        return deed.doneBy(actor, asked.bidder, act, x);
    }

    public int trace(int i) {
        return deed.bodyAt(i);
    }

    public int many(int what) {
        switch (what) {
            case 0: return hall.lotCount;
            case 1: return hall.bidderCount;
            case 2: return hall.soldLots();
            case 3: return rows.count;
            case 4: return tape.size;
            case 5: return deed.count;
            default: return BAD;
        }
    }

    // ---- kept

    public int keep() {
        kept.copy(hall);
        anyKept = true;
        return 1;
    }

    public int again() {
        if (!anyKept) {
            return NONE;
        }
        hall.copy(kept);
        return hall.lotCount;
    }

    // ---- what the calls above share

    private Sheet sheetAt(int sheet) {
        return within(sheet, 0, SHEETS - 1) ? sheets[sheet] : null;
    }

    private Shelf shelfAt(int shelf) {
        return within(shelf, 0, SHELVES - 1) ? shelves[shelf] : null;
    }

    private static boolean within(int v, int least, int most) {
        return v >= least && v <= most;
    }

    /** The KIND just above; a plain bidder's own, as there is none above it. */
    private static int kindAbove(int kind) {
        switch (kind) {
            case SNIPER:
            case BLIND:
                return LATE;
            case BROKER:
                return LEAPER;
            default:
                return PLAIN;
        }
    }

    /** Whether a KIND is another one, or one under it: the tree is three levels high. */
    private static boolean isUnder(int kind, int other) {
        int above = kindAbove(kind);
        return kind == other || above == other || kindAbove(above) == other;
    }

    /** A LOT: its candle's WAX, its WORTH, and what became of it. */
    private static final class Lot {
        private int wax = 1;
        private int worth = 1;
        private boolean sold = false;
        private int price = NOTHING;
        private int buyer = NOBODY;

        void renew(int newWax, int newWorth) {
            wax = newWax;
            worth = newWorth;
            unsell();
        }

        void sell(int who, int forHigh) {
            sold = true;
            price = forHigh;
            buyer = who;
        }

        void unsell() {
            sold = false;
            price = NOTHING;
            buyer = NOBODY;
        }

        void copy(Lot from) {
            wax = from.wax;
            worth = from.worth;
            sold = from.sold;
            price = from.price;
            buyer = from.buyer;
        }
    }

    /** A BIDDER, and how one of the KIND calls. */
    private static final class Bidder {
        private int kind = PLAIN;
        private int a = 0;
        private int value = 0;
        private int purse = 0;

        void renew(int newKind, int newA, int newValue, int newPurse) {
            kind = newKind;
            a = newA;
            value = newValue;
            purse = newPurse;
        }

        void copy(Bidder from) {
            renew(from.kind, from.a, from.value, from.purse);
        }

        int limitFor(int worth) {
            int plain = Math.min(value * worth / 100, purse);
            return kind == BROKER ? plain * 9 / 10 : plain;
        }

        int raise(int step) {
            return kind == LEAPER || kind == BROKER ? 2 * step + a : step;
        }

        /** Whether this is a moment to call, by the candle and HIGH alone. */
        boolean isReady(int tick, int left, int burns, int high) {
            if (kind == BLIND) {
                return left <= burns;
            }
            int every = a + 1;
            if (every <= 0 || tick % every != 0) {
                return false;
            }
            if (kind == LATE || kind == SNIPER) {
                return left <= 3 * a && (kind == LATE || high > 0);
            }
            return true;
        }
    }

    /** All that keep() keeps: LOTS, BIDDERS, DRAUGHTS, STEP, z, and the candle of THE LOT. */
    private static final class Hall {
        private final Lot[] lots = new Lot[MOST_LOTS];
        private int lotCount = 0;
        private final Bidder[] bidders = new Bidder[MOST_BIDDERS];
        private int bidderCount = 0;
        private final int[] draughts = new int[PLACES];
        private int step = FIRST_STEP;
        private int z = 1;
        private int theLot = NOTHING;
        private int tick = 0;
        private int burnt = 0;
        private int high = 0;
        private int holder = NOBODY;

        Hall() {
            for (int i = 0; i < MOST_LOTS; i++) {
                lots[i] = new Lot();
            }
            for (int i = 0; i < MOST_BIDDERS; i++) {
                bidders[i] = new Bidder();
            }
        }

        /** As a TEXT that tells nothing has it; z is in no TEXT and stays. */
        void clear() {
            lotCount = 0;
            bidderCount = 0;
            for (int i = 0; i < PLACES; i++) {
                draughts[i] = 0;
            }
            step = FIRST_STEP;
            theLot = NOTHING;
        }

        void copy(Hall from) {
            lotCount = from.lotCount;
            for (int i = 0; i < MOST_LOTS; i++) {
                lots[i].copy(from.lots[i]);
            }
            bidderCount = from.bidderCount;
            for (int i = 0; i < MOST_BIDDERS; i++) {
                bidders[i].copy(from.bidders[i]);
            }
            System.arraycopy(from.draughts, 0, draughts, 0, PLACES);
            step = from.step;
            z = from.z;
            theLot = from.theLot;
            tick = from.tick;
            burnt = from.burnt;
            high = from.high;
            holder = from.holder;
        }

        /** null: there is none such. */
        Lot lotAt(int lot) {
            return lot >= 0 && lot < lotCount && lot < MOST_LOTS ? lots[lot] : null;
        }

        /** null: there is none such, or it is sold. */
        Lot unsoldAt(int lot) {
            Lot found = lotAt(lot);
            return found == null || found.sold ? null : found;
        }

        /** null: there is none such. */
        Bidder bidderAt(int bidder) {
            boolean there = bidder >= 0 && bidder < bidderCount && bidder < MOST_BIDDERS;
            return there ? bidders[bidder] : null;
        }

        /** THE LOT; null: none. */
        Lot burning() {
            return lotAt(theLot);
        }

        int addLot(int wax, int worth) {
            if (lotCount >= MOST_LOTS) {
                return FULL;
            }
            lots[lotCount].renew(wax, worth);
            lotCount++;
            return lotCount - 1;
        }

        int addBidder(int kind, int a, int value, int purse) {
            if (bidderCount >= MOST_BIDDERS) {
                return FULL;
            }
            bidders[bidderCount].renew(kind, a, value, purse);
            bidderCount++;
            return bidderCount - 1;
        }

        void setAlight(int lot) {
            theLot = lot;
            tick = 0;
            burnt = 0;
            high = 0;
            holder = NOBODY;
        }

        int burnsNow() {
            return 1 + draughts[Math.floorMod(tick, PLACES)];
        }

        /** What a BIDDER CALLS in this TICK, as HIGH and HOLDER are; 0: nothing. */
        int callOf(int bidder) {
            Lot lot = burning();
            Bidder caller = bidderAt(bidder);
            if (lot == null || caller == null || bidder == holder) {
                return 0;
            }
            if (!caller.isReady(tick, lot.wax - burnt, burnsNow(), high)) {
                return 0;
            }
            int sum = high + caller.raise(step);
            return sum <= caller.limitFor(lot.worth) ? sum : 0;
        }

        /** told (or null) takes the CALL as a row. */
        void takeCall(int bidder, int sum, Rows told) {
            high = sum;
            holder = bidder;
            if (told != null) {
                told.add(tick, bidder, sum);
            }
        }

        /** At most n TICKS go, as far as THE LOT is there: how many went. */
        int goTicks(int n, Rows told) {
            int gone = 0;
            for (int i = 0; i < n && burning() != null; i++) {
                goOneTick(told);
                gone++;
            }
            return gone;
        }

        private void goOneTick(Rows told) {
            for (int i = 0; i < bidderCount; i++) {
                int sum = callOf(i);
                if (sum > 0) {
                    takeCall(i, sum, told);
                }
            }
            burnt += burnsNow();
            tick++;
            Lot lot = burning();
            if (lot != null && burnt >= lot.wax) {
                putOut();
            }
        }

        /** THE LOT is sold to the HOLDER for HIGH, or to nobody for 0 (HIGH is 0 then). */
        void putOut() {
            Lot lot = burning();
            if (lot != null) {
                lot.sell(holder, high);
            }
            Bidder buyer = bidderAt(holder);
            if (buyer != null) {
                buyer.purse = Math.max(buyer.purse - high, 0);
            }
            theLot = NOTHING;
        }

        int soldLots() {
            int sold = 0;
            for (int i = 0; i < lotCount; i++) {
                sold += lots[i].sold ? 1 : 0;
            }
            return sold;
        }

        /** Of NOBODY: those that were sold to nobody. */
        int lotsSoldTo(int who) {
            int had = 0;
            for (int i = 0; i < lotCount; i++) {
                had += lots[i].sold && lots[i].buyer == who ? 1 : 0;
            }
            return had;
        }

        int allPrices() {
            int sum = 0;
            for (int i = 0; i < lotCount; i++) {
                sum += lots[i].sold ? lots[i].price : 0;
            }
            return sum;
        }

        int allPurses() {
            int sum = 0;
            for (int i = 0; i < bidderCount; i++) {
                sum += bidders[i].purse;
            }
            return sum;
        }

        /** The BIDDER with the greatest LIMIT, of several the least; NONE without BIDDERS. */
        int bidderOfMost(int worth) {
            int best = NONE;
            int bestLimit = -1;
            for (int i = 0; i < bidderCount; i++) {
                int limit = bidders[i].limitFor(worth);
                if (limit > bestLimit) {
                    best = i;
                    bestLimit = limit;
                }
            }
            return best;
        }
    }

    /** TRIALS of LOTS of a real hall, played on a copy of it, so that nothing changes there. */
    private static final class Trials {
        /** As many as 5 LOTS have. */
        private static final int MOST_ORDERS = 120;
        private final Hall stage = new Hall();
        private int best = NONE;
        private int bestPrice = 0;
        private final int[] order = new int[MOST_LOTS];
        private final int[] bestOrder = new int[MOST_LOTS];
        /** The PURSES ahead of each place of the order, so that no beginning is played twice. */
        private final int[][] pursesAt = new int[MOST_LOTS + 1][MOST_BIDDERS];
        private final int[] sumAt = new int[MOST_LOTS + 1];

        /** How many TICKS it takes; told (or null) takes the CALLS. */
        int burnAnew(Hall real, int lot, Rows told) {
            setStage(real, lot);
            return stage.goTicks(MOST_TICKS, told);
        }

        private void setStage(Hall real, int lot) {
            stage.copy(real);
            stage.setAlight(lot);
        }

        int price(int lot) {
            Lot burnt = stage.lotAt(lot);
            return burnt == null ? 0 : burnt.price;
        }

        int winner(int lot) {
            Lot burnt = stage.lotAt(lot);
            return burnt == null ? NOBODY : burnt.buyer;
        }

        private void forgetBest() {
            best = NONE;
            bestPrice = 0;
        }

        private void weighLeast(int choice, int price) {
            if (best == NONE || price < bestPrice) {
                best = choice;
                bestPrice = price;
            }
        }

        private void weighGreatest(int choice, int price) {
            if (best == NONE || price > bestPrice) {
                best = choice;
                bestPrice = price;
            }
        }

        int bestPatience(Hall real, int bidder, int lot) {
            forgetBest();
            for (int a = 0; a <= MOST_A; a++) {
                setStage(real, lot);
                Bidder patient = stage.bidderAt(bidder);
                if (patient != null) {
                    patient.a = a;
                }
                stage.goTicks(MOST_TICKS, null);
                if (winner(lot) == bidder) {
                    weighLeast(a, price(lot));
                }
            }
            return best;
        }

        int bestGust(Hall real, int bidder, int lot) {
            forgetBest();
            for (int place = 0; place < PLACES; place++) {
                for (int v = 0; v <= MOST_DRAUGHT; v++) {
                    setStage(real, lot);
                    stage.draughts[place] = v;
                    stage.goTicks(MOST_TICKS, null);
                    if (winner(lot) == bidder) {
                        weighLeast(10 * place + v, price(lot));
                    }
                }
            }
            return best;
        }

        int bestWax(Hall real, int lot) {
            forgetBest();
            for (int wax = 1; wax <= MOST_WAX; wax++) {
                setStage(real, lot);
                Lot trimmed = stage.lotAt(lot);
                if (trimmed != null) {
                    trimmed.wax = wax;
                }
                stage.goTicks(MOST_TICKS, null);
                weighGreatest(wax, price(lot));
            }
            return best;
        }

        int bestSilent(Hall real, int lot) {
            forgetBest();
            for (int bidder = 0; bidder < real.bidderCount; bidder++) {
                setStage(real, lot);
                Bidder silenced = stage.bidderAt(bidder);
                if (silenced != null) {
                    // a LIMIT of 0 lets nobody CALL, as a CALL is 1 at least
                    silenced.value = 0;
                }
                stage.goTicks(MOST_TICKS, null);
                if (winner(lot) != NOBODY) {
                    weighLeast(bidder, price(lot));
                }
            }
            return best;
        }

        int lotInBestOrder(int i) {
            return i >= 0 && i < MOST_LOTS ? bestOrder[i] : NONE;
        }

        /** Plays every order, the first by LOTS first; bestOrder and bestPrice then tell it. */
        void findBestOrder(Hall real) {
            forgetBest();
            stage.copy(real);
            savePurses(pursesAt[0]);
            int lots = listUnsold(real);
            int from = 0;
            for (int tries = 0; tries < MOST_ORDERS && from >= 0; tries++) {
                loadPurses(pursesAt[from]);
                for (int i = from; i < lots; i++) {
                    stage.setAlight(order[i]);
                    stage.goTicks(MOST_TICKS, null);
                    sumAt[i + 1] = sumAt[i] + price(order[i]);
                    savePurses(pursesAt[i + 1]);
                }
                weighGreatest(tries, sumAt[lots]);
                if (best == tries) {
                    System.arraycopy(order, 0, bestOrder, 0, lots);
                }
                from = stepOrder(lots);
            }
        }

        /** The order becomes the first of all: how many LOTS it has. */
        private int listUnsold(Hall real) {
            int lots = 0;
            for (int i = 0; i < MOST_LOTS; i++) {
                if (real.unsoldAt(i) != null) {
                    order[lots] = i;
                    lots++;
                }
            }
            return lots;
        }

        /** The order becomes the next one by LOTS: the first place that changed, or NONE. */
        private int stepOrder(int lots) {
            int at = lots - 2;
            while (at >= 0 && order[at] > order[at + 1]) {
                at--;
            }
            if (at < 0) {
                return NONE;
            }
            int other = lots - 1;
            while (other > at && order[other] < order[at]) {
                other--;
            }
            swapOrder(at, other);
            for (int low = at + 1, far = lots - 1; low < far; low++, far--) {
                swapOrder(low, far);
            }
            return at;
        }

        private void swapOrder(int i, int k) {
            int lot = order[i];
            order[i] = order[k];
            order[k] = lot;
        }

        private void savePurses(int[] purses) {
            for (int i = 0; i < MOST_BIDDERS && i < purses.length; i++) {
                purses[i] = stage.bidders[i].purse;
            }
        }

        private void loadPurses(int[] purses) {
            for (int i = 0; i < MOST_BIDDERS && i < purses.length; i++) {
                stage.bidders[i].purse = purses[i];
            }
        }
    }

    /** THE TAPE, and the reading of its TEXT. */
    private static final class Tape {
        private static final int MOST_BYTES = 200, MOST_DIGITS = 4;
        private final byte[] bytes = new byte[MOST_BYTES];
        private int size = 0;
        private int at = 0;
        /** The first FAULT; once there is one, nothing more is read. */
        private int fault = NONE;

        void clear() {
            size = 0;
        }

        int takes(long eight, int n) {
            if (size + n > MOST_BYTES) {
                return FULL;
            }
            for (int i = 0; i < n; i++) {
                bytes[size + i] = (byte) (eight >> (8 * i));
            }
            size += n;
            return size;
        }

        /** The hall becomes the one told, as far as there is no FAULT: the FAULT, or NONE. */
        int readInto(Hall told) {
            at = 0;
            fault = NONE;
            skipBlanks();
            // an entry has a byte at least
            for (int entries = 0; entries < size && at < size && fault == NONE; entries++) {
                readEntry(told);
                skipBlanks();
            }
            return fault;
        }

        private void readEntry(Hall told) {
            int from = at;
            int to = endOfRow('a', 'z');
            at = to;
            int kind = kindNamed(from, to);
            if (isName(from, to, "lot")) {
                readLot(told, from);
            } else if (kind != NONE) {
                readBidder(told, from, kind);
            } else if (isName(from, to, "draught")) {
                readDraught(told);
            } else if (isName(from, to, "step")) {
                readStep(told);
            } else {
                fault = from;
            }
        }

        private void readLot(Hall told, int from) {
            if (told.lotCount >= MOST_LOTS) {
                fault = from;
                return;
            }
            int wax = readNumber(1, MOST_WAX);
            readName("worth");
            int worth = readNumber(1, MOST_WORTH);
            readEndMark();
            if (fault == NONE) {
                told.addLot(wax, worth);
            }
        }

        private void readBidder(Hall told, int from, int kind) {
            if (told.bidderCount >= MOST_BIDDERS) {
                fault = from;
                return;
            }
            int a = readNumber(0, MOST_A);
            readName("value");
            int value = readNumber(0, MOST_VALUE);
            readName("purse");
            int purse = readNumber(0, MOST_PURSE);
            readEndMark();
            if (fault == NONE) {
                told.addBidder(kind, a, value, purse);
            }
        }

        private void readDraught(Hall told) {
            int place = readNumber(0, PLACES - 1);
            int v = readNumber(0, MOST_DRAUGHT);
            readEndMark();
            if (fault == NONE) {
                told.draughts[place] = v;
            }
        }

        private void readStep(Hall told) {
            int v = readNumber(1, MOST_STEP);
            readEndMark();
            if (fault == NONE) {
                told.step = v;
            }
        }

        private void readName(String name) {
            if (fault != NONE) {
                return;
            }
            skipBlanks();
            int to = endOfRow('a', 'z');
            if (isName(at, to, name)) {
                at = to;
            } else {
                fault = at;
            }
        }

        /** A number in its range, also where there is a FAULT. */
        private int readNumber(int least, int most) {
            if (fault != NONE) {
                return least;
            }
            skipBlanks();
            int to = endOfRow('0', '9');
            int number = 0;
            for (int i = at; i < to && i < at + MOST_DIGITS; i++) {
                number = number * 10 + (bytes[i] - '0');
            }
            boolean asTold = to > at && to <= at + MOST_DIGITS && within(number, least, most);
            if (!asTold) {
                fault = at;
                return least;
            }
            at = to;
            return number;
        }

        private void readEndMark() {
            if (fault != NONE) {
                return;
            }
            skipBlanks();
            if (at < size && bytes[at] == ';') {
                at++;
            } else {
                fault = at;
            }
        }

        private void skipBlanks() {
            at = endOfRow(' ', ' ');
        }

        /** Where the row of bytes from one sign to another ends that begins where the reading is. */
        private int endOfRow(char first, char last) {
            int end = at;
            while (end < size && bytes[end] >= first && bytes[end] <= last) {
                end++;
            }
            return end;
        }

        private boolean isName(int from, int to, String name) {
            if (to - from != name.length()) {
                return false;
            }
            for (int i = from; i < to; i++) {
                if (bytes[i] != name.charAt(i - from)) {
                    return false;
                }
            }
            return true;
        }

        private int kindNamed(int from, int to) {
            for (int kind = 0; kind < KINDS; kind++) {
                if (isName(from, to, nameOfKind(kind))) {
                    return kind;
                }
            }
            return NONE;
        }

        private static String nameOfKind(int kind) {
            switch (kind) {
                case LATE: return "late";
                case LEAPER: return "leaper";
                case SNIPER: return "sniper";
                case BROKER: return "broker";
                case BLIND: return "blind";
                default: return "bidder";
            }
        }
    }

    /** ROWS: CALLS of a TRIAL, each with its TICK, who CALLS, and HIGH then. */
    private static final class Rows {
        private static final int MOST_ROWS = 20, WIDTH = 3, FEWER = 222;
        private final int[] cells = new int[MOST_ROWS * WIDTH];
        private int count = 0;

        void clear() {
            count = 0;
        }

        void add(int tick, int who, int high) {
            if (count >= MOST_ROWS) {
                return;
            }
            cells[count * WIDTH] = tick;
            cells[count * WIDTH + 1] = who;
            cells[count * WIDTH + 2] = high;
            count++;
        }

        boolean has(int i, int what) {
            return within(i, 0, count - 1) && within(what, 0, WIDTH - 1);
        }

        int cell(int i, int what) {
            return has(i, what) ? cells[i * WIDTH + what] : NOTHING;
        }

        void setCell(int i, int what, int v) {
            if (has(i, what)) {
                cells[i * WIDTH + what] = v;
            }
        }

        // ahead of the first wrong row all was right, so that the right rows tell what must be
        int judgedBy(Rows right) {
            for (int i = 0; i < count; i++) {
                if (i >= right.count || !isSameRow(i, right)) {
                    return i + 1;
                }
            }
            return count < right.count ? FEWER : 0;
        }

        private boolean isSameRow(int i, Rows right) {
            for (int what = 0; what < WIDTH; what++) {
                if (cell(i, what) != right.cell(i, what)) {
                    return false;
                }
            }
            return true;
        }
    }

    /** A SHEET; ints hold its items, as of longs only the lowest 32 bits are ever asked. */
    private static final class Sheet {
        private static final int MISSING = -1, BYTES = 0, SHORTS = 1, LONGS = 3;
        private static final int MOST_ITEMS = 40;
        private final int[] items = new int[MOST_ITEMS];
        private int sort = MISSING;
        private int size = 0;

        boolean isMissing() {
            return sort == MISSING;
        }

        void remake(int newSort, int newSize) {
            sort = newSort;
            size = newSize;
            for (int i = 0; i < MOST_ITEMS; i++) {
                items[i] = 0;
            }
        }

        boolean has(int i) {
            return within(i, 0, size - 1) && i < MOST_ITEMS;
        }

        int itemAt(int i) {
            return has(i) ? items[i] : 0;
        }

        void setItem(int i, int v) {
            if (has(i)) {
                items[i] = narrowed(v);
            }
        }

        private int narrowed(int v) {
            switch (sort) {
                case BYTES: return (byte) v;
                case SHORTS: return (short) v;
                default: return v;
            }
        }
    }

    /** A SHELF; of a row only the sort and the size can ever be asked. */
    private static final class Shelf {
        private int bidder = NOBODY;
        private int sort = Sheet.MISSING;
        private int size = 0;

        void holdBidder(int number) {
            holdNothing();
            bidder = number;
        }

        void holdRow(Sheet sheet) {
            bidder = NOBODY;
            sort = sheet.sort;
            size = sheet.size;
        }

        void holdNothing() {
            bidder = NOBODY;
            sort = Sheet.MISSING;
            size = 0;
        }

        boolean holdsRow() {
            return sort != Sheet.MISSING;
        }
    }

    /**
     * An ACT of a thing, and its TRACE. Each body stands under the KIND that has it: "super" asks
     * for the KIND above that one, and what is asked of the thing itself begins at its own KIND.
     */
    private static final class Deed {
        private static final int MOST_BODIES = 30;
        /** Far above what any KIND needs: tells, hears and calls, each from its own KIND up, are nine. */
        private static final int MOST_DEPTH = 40;
        private final int[] bodies = new int[MOST_BODIES];
        private int count = 0;
        /** Once parted by 0, no more bodies begin and what is answered counts no more. */
        private boolean parted = false;
        private int own = PLAIN;
        private int n = 0;
        private int a = 0;

        void clear() {
            count = 0;
            parted = false;
        }

        int bodyAt(int i) {
            return i >= 0 && i < count && i < MOST_BODIES ? bodies[i] : NONE;
        }

        int doneBy(Bidder actor, int number, int act, int x) {
            own = actor.kind;
            n = number;
            a = actor.a;
            int answer = answerTo(act, x);
            return parted ? PARTED_BY_0 : answer;
        }

        private int answerTo(int act, int x) {
            switch (act) {
                case 0: return calls(this, own, x, 0);
                case 1: return hears(this, own, x, 0);
                case 2: return shares(this, own, x, 0);
                default: return tells(this, own, x, 0);
            }
        }

        private void begin(int body) {
            if (!parted && count < MOST_BODIES) {
                bodies[count] = body;
                count++;
            }
        }

        private static int calls(Deed deed, int kind, int x, int depth) {
            if (depth >= MOST_DEPTH) {
                return 0;
            }
            switch (kind) {
                case PLAIN:
                    deed.begin(10);
                    return x + deed.n;
                case LEAPER:
                    deed.begin(30);
                    return calls(deed, PLAIN, x, depth + 1) * 3;
                case BROKER:
                    deed.begin(40);
                    return 0 - calls(deed, LEAPER, x, depth + 1);
                case SNIPER:
                    deed.begin(51);
                    return calls(deed, LATE, x, depth + 1) - deed.n;
                default:
                    return calls(deed, kindAbove(kind), x, depth + 1);
            }
        }

        private static int hears(Deed deed, int kind, int x, int depth) {
            if (depth >= MOST_DEPTH) {
                return 0;
            }
            switch (kind) {
                case PLAIN:
                    deed.begin(11);
                    return calls(deed, deed.own, x, depth + 1) * 2;
                case LATE:
                    deed.begin(20);
                    return hears(deed, PLAIN, x, depth + 1) - deed.a;
                case BROKER:
                    deed.begin(41);
                    return hears(deed, LEAPER, x, depth + 1) + calls(deed, deed.own, deed.n, depth + 1);
                default:
                    return hears(deed, kindAbove(kind), x, depth + 1);
            }
        }

        private static int shares(Deed deed, int kind, int x, int depth) {
            if (depth >= MOST_DEPTH) {
                return 0;
            }
            switch (kind) {
                case PLAIN:
                    deed.begin(12);
                    return deed.quotient(x, deed.a - deed.n);
                case SNIPER:
                    deed.begin(50);
                    return shares(deed, LATE, x + 2, depth + 1) ^ 1;
                case BLIND:
                    deed.begin(61);
                    return shares(deed, LATE, x, depth + 1) + calls(deed, deed.own, deed.a, depth + 1);
                default:
                    return shares(deed, kindAbove(kind), x, depth + 1);
            }
        }

        private static int tells(Deed deed, int kind, int x, int depth) {
            if (depth >= MOST_DEPTH) {
                return 0;
            }
            switch (kind) {
                case PLAIN:
                    deed.begin(13);
                    return hears(deed, deed.own, x, depth + 1) ^ deed.a;
                case LEAPER:
                    deed.begin(31);
                    return tells(deed, PLAIN, x, depth + 1) + shares(deed, deed.own, deed.n, depth + 1);
                case BLIND:
                    deed.begin(60);
                    return tells(deed, LATE, x, depth + 1) * 2;
                default:
                    return tells(deed, kindAbove(kind), x, depth + 1);
            }
        }

        private int quotient(int x, int parts) {
            if (parts == 0) {
                parted = true;
                return 0;
            }
            return x / parts;
        }
    }
}
