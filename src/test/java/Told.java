import java.util.LinkedHashMap;
import java.util.Map;
import java.util.function.Supplier;

/** All that an object tells of itself, by parts, so that what a call changes and what it leaves can be seen. */
final class Told {
    private Told() {
    }

    /**
     * The parts of an object that is made three times, as what THE TAPE holds and what is kept can only be
     * told by what hall() and again() do.
     */
    static Map<String, String> parts(Supplier<InchCandle> made) {
        Map<String, String> parts = seen(made.get());
        InchCandle read = made.get();
        // z stays with hall(), so that it is no part of what THE TAPE tells
        read.seed(0);
        parts.put("THE TEXT", read.hall() + " " + hall(read));
        InchCandle kept = made.get();
        parts.put("KEPT", kept.again() + " " + hall(kept));
        return parts;
    }

    /** What can be told by asking alone. DRAUGHTS, STEP and z are put back as they are asked. */
    private static Map<String, String> seen(InchCandle x) {
        Map<String, String> parts = new LinkedHashMap<>();
        parts.put("LOTS", lots(x));
        parts.put("BIDDERS", bidders(x));
        parts.put("THE LOT", theLot(x));
        parts.put("DRAUGHTS", draughts(x));
        parts.put("STEP", step(x));
        parts.put("z", z(x));
        parts.put("THE TAPE", "" + x.many(4));
        parts.put("ROWS", rows(x));
        parts.put("SHEETS", sheets(x));
        parts.put("SHELVES", shelves(x));
        parts.put("THE TRACE", trace(x));
        return parts;
    }

    private static String hall(InchCandle x) {
        return lots(x) + "/" + bidders(x) + "/" + theLot(x) + "/" + draughts(x) + "/" + step(x) + "/" + z(x);
    }

    private static String lots(InchCandle x) {
        StringBuilder told = new StringBuilder().append(x.many(0)).append(':').append(x.many(2));
        for (int lot = 0; lot < x.many(0); lot++) {
            for (int what = 0; what < 5; what++) {
                told.append(what == 0 ? "; " : " ").append(x.lotOf(lot, what));
            }
        }
        return told.toString();
    }

    private static String bidders(InchCandle x) {
        StringBuilder told = new StringBuilder().append(x.many(1));
        for (int bidder = 0; bidder < x.many(1); bidder++) {
            for (int what = 0; what < 4; what++) {
                told.append(what == 0 ? "; " : " ").append(x.bidderOf(bidder, what));
            }
        }
        return told.toString();
    }

    private static String theLot(InchCandle x) {
        StringBuilder told = new StringBuilder();
        for (int what = 0; what < 5; what++) {
            told.append(x.now(what)).append(' ');
        }
        return told.toString();
    }

    private static String draughts(InchCandle x) {
        StringBuilder told = new StringBuilder();
        for (int place = 0; place < 12; place++) {
            int v = x.draught(place, 0);
            x.draught(place, v);
            told.append(v);
        }
        return told.toString();
    }

    private static String step(InchCandle x) {
        int step = x.step(1);
        x.step(step);
        return "" + step;
    }

    private static String z(InchCandle x) {
        int z = x.seed(0);
        x.seed(z);
        return "" + z;
    }

    private static String rows(InchCandle x) {
        StringBuilder told = new StringBuilder().append(x.many(3));
        for (int i = 0; i < x.many(3); i++) {
            told.append("; ").append(x.row(i, 0)).append(' ').append(x.row(i, 1)).append(' ').append(x.row(i, 2));
        }
        return told.toString();
    }

    private static String sheets(InchCandle x) {
        StringBuilder told = new StringBuilder();
        for (int sheet = 0; sheet < 4; sheet++) {
            for (int sort = 0; sort < 4; sort++) {
                int got = x.item(sheet, sort, -1);
                told.append(got).append(' ');
                // of the right sort -1 is outside, and the items end where it is so again
                for (int i = 0; i < 41 && got == -12; i++) {
                    int item = x.item(sheet, sort, i);
                    told.append(item).append(' ');
                    got = item == -12 ? 0 : got;
                }
            }
            told.append("; ");
        }
        return told.toString();
    }

    private static String shelves(InchCandle x) {
        StringBuilder told = new StringBuilder();
        for (int shelf = 0; shelf < 4; shelf++) {
            for (int as = 0; as < 14; as++) {
                if (as < 6 || as > 9) {
                    told.append(x.taken(shelf, as)).append(' ');
                }
            }
            told.append("; ");
        }
        return told.toString();
    }

    private static String trace(InchCandle x) {
        StringBuilder told = new StringBuilder().append(x.many(5)).append(':');
        for (int i = 0; i < x.many(5); i++) {
            told.append(' ').append(x.trace(i));
        }
        return told.toString();
    }
}
