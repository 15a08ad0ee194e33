/** What the tests share: an answer is compared with the one that is due, and the wrong ones are told. */
final class Due {
    private static int wrong = 0;
    private static int asked = 0;

    private Due() {
    }

    static void is(String call, long got, long want) {
        asked++;
        if (got != want) {
            wrong++;
            System.out.println(call + " answered " + got + ", due is " + want);
        }
    }

    static void yes(String what, boolean holds) {
        is(what, holds ? 1 : 0, 1);
    }

    /** Feeds a text byte by byte, eight at a time: what the last feed() answered. */
    static int feed(InchCandle x, String text) {
        int last = 0;
        for (int from = 0; from < text.length(); from += 8) {
            int n = Math.min(8, text.length() - from);
            long eight = 0;
            for (int i = n - 1; i >= 0; i--) {
                eight = eight << 8 | text.charAt(from + i) & 0xff;
            }
            last = x.feed(eight, n);
        }
        return last;
    }

    /** A new object with the hall of a text. */
    static InchCandle hall(String text) {
        InchCandle x = new InchCandle();
        int size = feed(x, text);
        if (text.length() > 0) {
            is("feed of " + text, size, text.length());
        }
        yes("hall of " + text, x.hall() >= 0);
        return x;
    }

    static void end(String name) {
        System.out.println(name + ": " + asked + " answers, " + wrong + " wrong");
        if (wrong != 0) {
            System.exit(1);
        }
    }
}
