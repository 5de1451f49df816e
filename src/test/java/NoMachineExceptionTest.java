import java.util.Random;

/**
 * Whatever the arguments and the state: only exceptions that a call's own face names reach its
 * caller. So it is behind the 512th call too, where the answers are free.
 */
public final class NoMachineExceptionTest {
    private static final int[] EDGES = {
        Integer.MIN_VALUE, -1048576, -1, 0, 1, 2, 3, 4, 5, 7, 8, 9, 13, 14, 49, 50, 100, 101, 511, 512,
        1000, 1001, 10000, 10001, 65535, 65536, 1048575, 1048576, Integer.MAX_VALUE,
    };

    private static final Class<?>[] INDEX = {IndexOutOfBoundsException.class};
    private static final Class<?>[] ARGUMENT = {IllegalArgumentException.class};
    private static final Class<?>[] ASK = {
        IllegalArgumentException.class, UnsupportedOperationException.class,
    };
    private static final Class<?>[] TIME = {
        IndexOutOfBoundsException.class, IllegalArgumentException.class, IllegalStateException.class,
    };
    private static final Class<?>[] NOTHING = {};

    private final Due due = new Due();
    private final Random random = new Random(7);

    public static void main(String[] args) {
        NoMachineExceptionTest test = new NoMachineExceptionTest();
        for (int i = 0; i < 200; i++) {
            test.anyArguments();
        }
        for (int scheduler = 0; scheduler < 4; scheduler++) {
            test.manyAsks(scheduler);
        }
        test.due.end();
    }

    private int edge() {
        return EDGES[random.nextInt(EDGES.length)];
    }

    private void throwsNoOther(String call, Class<?>[] told, Due.Call made) {
        try {
            made.answer();
        } catch (RuntimeException e) {
            boolean named = false;
            for (Class<?> one : told) {
                named = named || e.getClass() == one;
            }
            due.holds(call + " throws " + e, named);
        }
    }

    private void anyArguments() {
        BankTimes x = new BankTimes(edge(), edge(), edge());
        for (int i = 0; i < 700; i++) {
            int a = edge();
            int b = edge();
            int c = random.nextInt(4);
            int d = random.nextInt(3);
            throwsNoOther("time", TIME, () -> x.time(a, b));
            throwsNoOther("span", ARGUMENT, () -> x.span(a));
            throwsNoOther("ask", ASK, () -> x.ask(a, b > 0));
            throwsNoOther("run", ARGUMENT, () -> x.run(d == 0 ? a : d));
            throwsNoOther("done", INDEX, () -> x.done(a));
            throwsNoOther("command", INDEX, () -> x.command(a, b));
            throwsNoOther("open", INDEX, () -> x.open(a, b));
            throwsNoOther("part", ARGUMENT, () -> x.part(a, b));
            throwsNoOther("check", ARGUMENT, () -> x.check(d, b, c, a, 0));
            throwsNoOther("check", ARGUMENT, () -> x.check(a, edge(), b, edge(), edge()));
            throwsNoOther("count", NOTHING, () -> x.count(a));
            if (a == b) {
                x.begin();
            }
        }
    }

    private void manyAsks(int scheduler) {
        BankTimes x = new BankTimes(1, 3, scheduler);
        x.span(50);
        for (int i = 0; i < 2000; i++) {
            int address = random.nextInt(1 << 20);
            throwsNoOther("ask", ASK, () -> x.ask(address, address % 2 == 0));
            throwsNoOther("run", ARGUMENT, () -> x.run(1 + address % 40));
            throwsNoOther("done", INDEX, () -> x.done(address % 600));
            throwsNoOther("command", INDEX, () -> x.command(address % 520, address % 5));
        }
    }
}
