import java.lang.management.ManagementFactory;
import java.lang.reflect.InvocationTargetException;
import java.lang.reflect.Method;
import java.util.Arrays;
import java.util.Comparator;

/** No call throws, whatever its numbers are, and 512 calls of the dearest kind take no room. */
public final class RoomTest {
    private static final int[] EDGES = {Integer.MIN_VALUE, Integer.MIN_VALUE + 1, -100, -15, -9, -2, 40, 41, 60, 61, 99, 100,
        200, 222, 999, 1000, 9999, 10000, Integer.MAX_VALUE - 1, Integer.MAX_VALUE};
    private static final String[] TEXTS = {"lot 9 worth 50;", "late 1 value 50 purse 99;", "leaper 0 value 99 purse 500;",
        "step 3;", "draught 3 2;", "lot", " ; ", "blind 1 value 9 purse 9;", "bidder 0 value 500 purse 500;"};
    private static long state = 7;

    public static void main(String[] args) throws IllegalAccessException {
        dearestCalls();
        anyCalls();
        Due.end("RoomTest");
    }

    private static void dearestCalls() {
        com.sun.management.ThreadMXBean threads = (com.sun.management.ThreadMXBean) ManagementFactory.getThreadMXBean();
        long me = Thread.currentThread().getId();
        InchCandle x = new InchCandle();
        for (int i = 0; i < 6; i++) {
            x.lot(60, 99);
            x.bidder(i == 3 ? 0 : i, i, 999, 9999);
        }
        x.step(1);
        long before = threads.getThreadAllocatedBytes(me);
        long sum = 0;
        for (int i = 0; i < 50; i++) {
            sum += x.order(14) + x.wax(i % 5, 0) + x.gust(i % 6, i % 5) + x.patience(i % 6, i % 5) + x.silent(i % 5);
            sum += x.prove(i % 5) + x.judge(i % 5) + x.keep() + x.again() + x.sheet(0, 3, 40);
        }
        long taken = threads.getThreadAllocatedBytes(me) - before;
        Due.yes("500 calls take " + taken + " bytes (" + sum + ")", taken < 20000);
        before = threads.getThreadAllocatedBytes(me);
        new InchCandle();
        taken = threads.getThreadAllocatedBytes(me) - before;
        Due.yes("an object takes " + taken + " bytes", taken < 20000);
    }

    private static int any(int below) {
        state = state * 6364136223846793005L + 1442695040888963407L;
        return (int) ((state >>> 33) % below);
    }

    private static void anyCalls() throws IllegalAccessException {
        Method[] calls = Arrays.stream(InchCandle.class.getDeclaredMethods())
            .filter(m -> java.lang.reflect.Modifier.isPublic(m.getModifiers()))
            .sorted(Comparator.comparing(Method::getName)).toArray(Method[]::new);
        Due.is("calls of the face", calls.length, 45);
        int thrown = 0;
        for (int object = 0; object < 600; object++) {
            InchCandle x = new InchCandle();
            for (int i = 0; i < 512; i++) {
                thrown += i % 16 == 0 ? text(x) : one(x, calls[any(calls.length)]);
            }
        }
        Due.is("calls that threw", thrown, 0);
    }

    private static int text(InchCandle x) {
        if (any(3) > 0) {
            x.lot(1 + any(60), 1 + any(99));
            x.bidder(any(6), any(10), any(1000), any(10000));
            return 0;
        }
        for (int parts = any(5); parts > 0; parts--) {
            Due.feed(x, TEXTS[any(TEXTS.length)]);
        }
        x.hall();
        return 0;
    }

    private static int one(InchCandle x, Method call) throws IllegalAccessException {
        Class<?>[] types = call.getParameterTypes();
        Object[] numbers = new Object[types.length];
        for (int i = 0; i < types.length; i++) {
            int number = any(12) == 0 ? EDGES[any(EDGES.length)] : any(4) == 0 ? any(70) - 5 : any(7);
            numbers[i] = types[i] == long.class ? (Object) (number * 0x1234567L) : (Object) number;
        }
        try {
            call.invoke(x, numbers);
            return 0;
        } catch (InvocationTargetException e) {
            System.out.println(call.getName() + Arrays.toString(numbers) + " threw " + e.getCause());
            return 1;
        }
    }
}
