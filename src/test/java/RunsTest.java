import java.lang.reflect.Method;
import java.util.ArrayList;
import java.util.Arrays;
import java.util.List;
import java.util.Map;
import java.util.TreeMap;

/**
 * Promises 1 to 46 together: long runs of any calls, each answered by the program and by the plain second
 * telling of the whole document (PlainCandle), so that what one call leaves to another is seen too.
 */
public final class RunsTest {
    private static final int RUNS = 1500, CALLS = 512;

    /** A call, how often it comes (the first number), and the numbers that it is asked with (a few lie beyond). */
    private static final String[] ASKED = {
        "lot 6 1..60 1..99", "lot 3 1..12 40..99", "lotOf 8 0..4 0..4", "trim 4 0..4 0..1 1..60",
        "draught 4 0..11 0..3", "step 3 1..20", "bidder 6 0..5 0..9 0..999 0..9999",
        "bidder 3 0..5 0..3 50..300 0..300", "bidderOf 8 0..5 0..4", "mind 4 0..5 0..5 0..9",
        "purse 4 0..5 0..1 0..999", "purse 2 0..5 1..1 0..9999", "limit 4 0..5 0..4", "light 12 0..4", "now 10 0..6",
        "would 8 0..5", "ticks 8 0..9", "ticks 2 0..60", "call 6 0..5 1..200", "call 2 0..5 1..9999", "snuff 2",
        "back 6 0..4", "end 4 0..4", "wins 6 0..4 0..1", "patience 4 0..5 0..4", "gust 3 0..5 0..4",
        "wax 3 0..4 0..1", "silent 4 0..4", "order 3 10..14", "order 2 0..0", "most 4 0..4", "owed 5 0..2",
        "seed 1 -99..99", "draw 5 0..11", "prove 5 0..4", "row 6 0..19 0..2", "row 4 0..4 0..2",
        "alterRow 2 0..6 0..2 0..60", "judge 7 0..4", "draughts 6 0..3 0..12 0..11 0..4", "sheet 4 0..3 0..3 0..40",
        "sheet 3 0..3 0..0 0..40", "sheet 1 0..3 -1..-1 -99..99", "put 10 0..3 0..39 -300..300",
        "put 4 0..3 0..12 -2..5", "item 8 0..3 0..3 0..39", "shelf 6 0..3 0..2 0..5", "taken 6 0..3 0..5",
        "taken 5 0..3 10..13", "act 12 0..3 0..3 -99..99", "trace 8 0..11", "many 6 0..5", "keep 1", "again 1"};
    private static final String[] ENTRIES = {
        "lot 5 worth 50;", "lot 60 worth 99;", " lot 12 worth 88 ; ", "lot9worth70;", "late 3 value 200 purse 300;",
        "broker 1 value 999 purse 9999;", "blind 0 value 150 purse 400;", "sniper 4 value 250 purse 260;",
        "leaper 0 value 80 purse 90;", "bidder 2 value 222 purse 222;", "draught 11 3;", "draught 0 1;", "step 20;",
        "step 1;", "step 0003;", "lot 0060 worth 0099;"};
    private static final String[] SPOILS = {
        "lot", ";", "0", "100", "worth", "x", "10000", " ", "\u00ff", "step 00003;", "step 21;", "step 0;",
        "draught 12 0;", "draught 11 4;", "lot 0 worth 1;", "lot 61 worth 1;", "lot 1 worth 0;", "lot 1 worth 100;",
        "late 10 value 0 purse 0;", "late 9 value 1000 purse 0;", "late 9 value 999 purse 00009;"};
    private static final int[] FAR = {Integer.MIN_VALUE, Integer.MIN_VALUE + 1, -10000, -100, 41, 61, 100, 1000, 10000,
        Integer.MAX_VALUE - 1, Integer.MAX_VALUE};

    private static final List<Asked> asked = new ArrayList<>();
    /** Of each call how often it was answered by 0 or more, and how often by less. */
    private static final Map<String, int[]> answers = new TreeMap<>();
    private static long state = 1701;

    private static final class Asked {
        Method call;
        Method plain;
        int[] least;
        int[] most;
    }

    public static void main(String[] args) throws ReflectiveOperationException {
        for (String line : ASKED) {
            read(line);
        }
        for (int run = 0; run < RUNS; run++) {
            oneRun(run);
        }
        everyCall();
        Due.end("RunsTest");
    }

    private static int any(int below) {
        state = state * 6364136223846793005L + 1442695040888963407L;
        return (int) ((state >>> 33) % below);
    }

    private static void read(String line) throws ReflectiveOperationException {
        String[] parts = line.split(" ");
        Asked one = new Asked();
        int numbers = parts.length - 2;
        Class<?>[] types = new Class<?>[numbers];
        Arrays.fill(types, int.class);
        one.call = InchCandle.class.getMethod(parts[0], types);
        one.plain = PlainCandle.class.getMethod(parts[0], types);
        one.least = new int[numbers];
        one.most = new int[numbers];
        for (int i = 0; i < numbers; i++) {
            String[] ends = parts[i + 2].split("\\.\\.");
            one.least[i] = Integer.parseInt(ends[0]);
            one.most[i] = Integer.parseInt(ends[1]);
        }
        for (int times = Integer.parseInt(parts[1]); times > 0; times--) {
            asked.add(one);
        }
    }

    private static void oneRun(int run) throws ReflectiveOperationException {
        InchCandle x = new InchCandle();
        PlainCandle plain = new PlainCandle();
        StringBuilder told = new StringBuilder().append("run ").append(run).append(": ");
        int made = 0;
        while (made < CALLS) {
            int chance = any(120);
            int calls = chance < 3 ? oneText(x, plain, told)
                : chance < 5 ? oneFeed(x, plain, told) : oneCall(x, plain, told);
            if (calls < 0) {
                return;
            }
            made += calls;
        }
    }

    /** How many calls that was; -1: an answer was not as due. */
    private static int oneCall(InchCandle x, PlainCandle plain, StringBuilder told)
            throws ReflectiveOperationException {
        Asked one = asked.get(any(asked.size()));
        Object[] numbers = new Object[one.least.length];
        for (int i = 0; i < numbers.length; i++) {
            numbers[i] = number(one.least[i], one.most[i]);
        }
        int got = (int) one.call.invoke(x, numbers);
        int want = (int) one.plain.invoke(plain, numbers);
        return same(one.call.getName(), numbers, got, want, told) ? 1 : -1;
    }

    private static int number(int least, int most) {
        int chance = any(60);
        if (chance == 0) {
            return least - 1;
        }
        if (chance == 1) {
            return most + 1;
        }
        if (chance == 2 && any(3) == 0) {
            return FAR[any(FAR.length)];
        }
        return least + any(most - least + 1);
    }

    private static boolean same(String name, Object[] numbers, int got, int want, StringBuilder told) {
        String call = name + Arrays.toString(numbers).replace('[', '(').replace(']', ')');
        Due.is(told + call, got, want);
        told.append(call).append(' ');
        answers.computeIfAbsent(name, key -> new int[2])[want >= 0 ? 0 : 1]++;
        return got == want;
    }

    /** A TEXT, most often a right one, and hall(). */
    private static int oneText(InchCandle x, PlainCandle plain, StringBuilder told) {
        StringBuilder text = new StringBuilder();
        for (int entries = any(11); entries > 0; entries--) {
            text.append(ENTRIES[any(ENTRIES.length)]);
        }
        int spoilt = any(5);
        if (spoilt == 0) {
            text.insert(any(text.length() + 1), SPOILS[any(SPOILS.length)]);
        } else if (spoilt == 1) {
            text.append(SPOILS[any(SPOILS.length)]);
        }
        int calls = 1;
        for (int from = 0; from < text.length(); from += 8) {
            int n = Math.min(8, text.length() - from);
            long eight = 0;
            for (int i = n - 1; i >= 0; i--) {
                eight = eight << 8 | text.charAt(from + i);
            }
            calls++;
            if (!same("feed", new Object[] {eight, n}, x.feed(eight, n), plain.feed(eight, n), told)) {
                return -1;
            }
        }
        return same("hall", new Object[0], x.hall(), plain.hall(), told) ? calls : -1;
    }

    /** Any bytes, and any n. */
    private static int oneFeed(InchCandle x, PlainCandle plain, StringBuilder told) {
        long eight = state * 31;
        int n = number(1, 8);
        return same("feed", new Object[] {eight, n}, x.feed(eight, n), plain.feed(eight, n), told) ? 1 : -1;
    }

    /** The runs tell of all calls, of those that are refused and of those that are not. */
    private static void everyCall() {
        Due.is("calls that were asked", answers.size(), 45);
        for (Map.Entry<String, int[]> one : answers.entrySet()) {
            boolean neverBelow = one.getKey().equals("keep");
            Due.yes(one.getKey() + " was not refused, times " + one.getValue()[0], one.getValue()[0] > 50);
            Due.yes(one.getKey() + " answered below 0, times " + one.getValue()[1], neverBelow || one.getValue()[1] > 50);
        }
    }
}
