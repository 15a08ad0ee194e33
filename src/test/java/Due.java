import java.util.TreeSet;
import java.util.function.IntUnaryOperator;

/** What the tests share: an answer is compared with the one that is due, and the wrong ones are told. */
final class Due {
    private static int wrong = 0;
    private static int asked = 0;
    private static int sentences = 0;
    /** Of the sentence that is tested now; nothing, if the test tells none. */
    private static String stands = "";
    private static int askedAhead = -1;
    private static final TreeSet<Integer> promises = new TreeSet<>();

    private Due() {
    }

    /** A test of its own begins: the promise that it stands under, and the sentence that it tests. */
    static void sentence(int promise, String words) {
        endSentence();
        sentences++;
        promises.add(promise);
        stands = "promise " + promise + ", " + words + ": ";
        askedAhead = asked;
    }

    private static void endSentence() {
        if (asked == askedAhead) {
            wrong++;
            System.out.println(stands + "nothing was asked");
        }
        stands = "";
        askedAhead = -1;
    }

    /** Fails if one of these promises has no sentence. */
    static void promises(int from, int to) {
        endSentence();
        for (int promise = from; promise <= to; promise++) {
            yes("promise " + promise + " has a sentence", promises.contains(promise));
        }
    }

    static void is(String call, long got, long want) {
        asked++;
        if (got != want) {
            wrong++;
            System.out.println(stands + call + " answered " + got + ", due is " + want);
        }
    }

    static void yes(String what, boolean holds) {
        is(what, holds ? 1 : 0, 1);
    }

    static void same(String what, String got, String want) {
        asked++;
        if (!got.equals(want)) {
            wrong++;
            System.out.println(stands + what + "\n  is  " + got + "\n  due " + want);
        }
    }

    /** The ones just within are not refused; one too small, one too large and the farthest ints are. */
    static void range(String call, IntUnaryOperator asks, int least, int most, int refusal) {
        for (int v : new int[] {least, most}) {
            int got = asks.applyAsInt(v);
            yes(call + " with " + v + " answered " + got, got != refusal);
        }
        for (int v : new int[] {least - 1, most + 1, Integer.MIN_VALUE, Integer.MAX_VALUE}) {
            is(call + " with " + v, asks.applyAsInt(v), refusal);
        }
    }

    /** Feeds a text byte by byte, eight at a time: what the last feed() answered. */
    static int feed(InchCandle x, String text) {
        int last = 0;
        for (int from = 0; from < text.length(); from += 8) {
            int n = Math.min(8, text.length() - from);
            long eight = 0;
            for (int i = n - 1; i >= 0; i--) {
                eight = eight << 8 | text.charAt(from + i) & 0xff;
            }
            last = x.feed(eight, n);
        }
        return last;
    }

    /** A new object with the hall of a text. */
    static InchCandle hall(String text) {
        InchCandle x = new InchCandle();
        int size = feed(x, text);
        if (text.length() > 0) {
            is("feed of " + text, size, text.length());
        }
        yes("hall of " + text, x.hall() >= 0);
        return x;
    }

    static void end(String name) {
        endSentence();
        String tests = sentences > 0 ? sentences + " sentences, " : "";
        System.out.println(name + ": " + tests + asked + " answers, " + wrong + " wrong");
        if (wrong != 0) {
            System.exit(1);
        }
    }
}
