/** Promises 3, 41 to 43 over many texts and things, against the plain second tellings of them. */
public final class HostCrossTest {
    private static final String[] ENTRIES = {"lot 5 worth 50;", "lot 60 worth 99;", "late 1 value 2 purse 3;",
        "broker 9 value 999 purse 9999;", "blind 0 value 0 purse 0;", "sniper 4 value 5 purse 6;", "leaper 7 value 8 purse 9;",
        "bidder 2 value 22 purse 222;", "draught 11 3;", "draught 0 1;", "step 20;", "step 1;", "lot1worth1;", " ", "   "};
    private static final String[] PARTS = {"lot", "worth", "value", "purse", "draught", "step", "late", "bidder", ";", " ", "0", "1",
        "9", "10", "60", "61", "99", "100", "1000", "9999", "00001", "x", "A", "{", "|", "\n", "\u00e9", "\u0000"};
    private static long state = 99;

    public static void main(String[] args) {
        for (int i = 0; i < 6000; i++) {
            oneText();
        }
        for (int kind = 0; kind < 6; kind++) {
            for (int n = 0; n < 6; n++) {
                things(kind, n);
            }
        }
        Due.end("HostCrossTest");
    }

    private static int any(int below) {
        state = state * 6364136223846793005L + 1442695040888963407L;
        return (int) ((state >>> 33) % below);
    }

    /** Right entries, of which some are spoilt: a part put in, taken out, or put in place of a byte. */
    private static String text() {
        StringBuilder text = new StringBuilder();
        for (int entries = any(12); entries > 0; entries--) {
            text.append(ENTRIES[any(ENTRIES.length)]);
        }
        for (int spoils = any(3); spoils > 0 && text.length() > 0; spoils--) {
            int at = any(text.length());
            int to = Math.min(text.length(), at + any(3));
            text.replace(at, to, any(4) == 0 ? "" : PARTS[any(PARTS.length)]);
        }
        return text.length() > 200 ? text.substring(0, 200) : text.toString();
    }

    private static void oneText() {
        String text = text();
        PlainText plain = new PlainText(text);
        InchCandle x = new InchCandle();
        Due.feed(x, text);
        Due.is("hall() of '" + text + "'", x.hall(), plain.fault < 0 ? plain.lots.size() : -100 - plain.fault);
        boolean right = plain.fault < 0;
        Due.is("LOTS of '" + text + "'", x.many(0), right ? plain.lots.size() : 0);
        Due.is("BIDDERS of '" + text + "'", x.many(1), right ? plain.bidders.size() : 0);
        for (int lot = 0; right && lot < plain.lots.size(); lot++) {
            Due.is("WAX of '" + text + "'", x.lotOf(lot, 0), plain.lots.get(lot)[0]);
            Due.is("WORTH of '" + text + "'", x.lotOf(lot, 1), plain.lots.get(lot)[1]);
        }
        for (int b = 0; right && b < plain.bidders.size(); b++) {
            for (int what = 0; what < 4; what++) {
                Due.is("a BIDDER of '" + text + "'", x.bidderOf(b, what), plain.bidders.get(b)[what]);
            }
        }
        for (int place = 0; place < 12; place++) {
            Due.is("a DRAUGHT of '" + text + "'", x.draught(place, 0), right ? plain.draughts[place] : 0);
        }
        Due.is("STEP of '" + text + "'", x.step(5), right ? plain.step : 5);
    }

    private static void things(int kind, int n) {
        int[] numbers = {0, 1, -1, 2, 7, -7, 100, 1 << 29, 1 << 30, -(1 << 30), Integer.MAX_VALUE, Integer.MIN_VALUE,
            Integer.MAX_VALUE - 1, Integer.MIN_VALUE + 1, any(1 << 30), -any(1 << 30)};
        for (int a = 0; a < 10; a++) {
            for (int as = 0; as < 6; as++) {
                Due.is("KIND " + kind + " taken for " + as, thing(kind, n, a).taken(2, as), PlainThings.is(kind, as) ? n : -13);
            }
            for (int act = 0; act < 4; act++) {
                InchCandle x = thing(kind, n, a);
                for (int v : numbers) {
                    String call = "act " + act + " of KIND " + kind + ", n " + n + ", A " + a + " with " + v;
                    Due.is(call, x.act(2, act, v), PlainThings.act(PlainThings.of(kind, n, a), act, v));
                    traced(x, call);
                }
            }
        }
    }

    /** One on SHELF 2, of that KIND, number and A. */
    private static InchCandle thing(int kind, int n, int a) {
        InchCandle x = new InchCandle();
        for (int i = 0; i < n; i++) {
            x.bidder(0, 0, 0, 0);
        }
        x.bidder(kind, a, 0, 0);
        x.shelf(2, 0, n);
        return x;
    }

    private static void traced(InchCandle x, String call) {
        int bodies = PlainThings.trace.size();
        Due.is("bodies of " + call, x.many(5), bodies);
        for (int i = 0; i <= bodies; i++) {
            Due.is("body " + i + " of " + call, x.trace(i), i < bodies ? PlainThings.trace.get(i) : -3);
        }
    }
}
