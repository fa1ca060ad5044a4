import java.util.Random;

/**
 * LANGUAGE.md, rule 7: no call throws by itself, for any arguments in any state, also behind the 512th
 * call, where answers are free. Up to there they are among those that the document knows.
 */
public final class WildCallsTest {
    private static final Check CHECK = new Check("WildCallsTest");
    private static final int OBJECTS = 400;
    private static final int CALLS = 5000;
    private static final int MOST_PROMISED = 512;
    private static final int THROWN = 128;
    private static final long[] ENDS = {Long.MIN_VALUE, Long.MIN_VALUE + 1, Integer.MIN_VALUE, -1000001, -65536, -1, 0, 1, 2, 3,
        4, 5, 6, 7, 8, 9, 15, 16, 17, 1000, 2000, 2001, 65535, 65536, 1000000, 1000001, Integer.MAX_VALUE, 1L << 31, 1L << 32,
        Long.MAX_VALUE - 1, Long.MAX_VALUE};

    private final Random random;
    private final DoorKeys car;
    private int calls;

    private WildCallsTest(int seed) {
        this.random = new Random(seed);
        this.car = new DoorKeys(wildInt());
    }

    public static void main(String[] args) {
        for (int seed = 1; seed <= OBJECTS; seed++) {
            WildCallsTest test = new WildCallsTest(seed);
            while (test.calls < CALLS) {
                test.call();
            }
        }
        CHECK.end();
    }

    private long wildLong() {
        return switch (random.nextInt(4)) {
            case 0 -> random.nextLong();
            case 1 -> random.nextInt(4000) - 2000;
            default -> ENDS[random.nextInt(ENDS.length)];
        };
    }

    private int wildInt() {
        return (int) wildLong();
    }

    private int someKey() {
        return random.nextInt(3) == 0 ? wildInt() : 1 + random.nextInt(8);
    }

    private void call() {
        switch (random.nextInt(13)) {
            case 0 -> within("key", car.key(wildLong(), wildLong()), -4, 8);
            case 1 -> oneOctet();
            case 2 -> within("counter", car.counter(someKey()), -1, 65535);
            case 3 -> within("lock", car.lock(wildInt()), -3, 5);
            case 4 -> within("learn", car.learn(someKey(), someKey(), someKey()), -1, 1);
            case 5 -> within("erase", car.erase(someKey()), -1, 1);
            case 6 -> within("field", car.field(someKey(), wildLong(), wildLong(), wildLong()), -2, 1);
            case 7 -> within("start", car.start(someKey(), wildLong()), -1, 1);
            case 8 -> within("crash", car.crash(), 0, 5);
            case 9 -> within("alarm", car.alarm(wildInt(), wildLong()), -2, 1);
            case 10 -> within("battery", car.battery(someKey()), -1, 1);
            case 11 -> within("octet", octetOrThrown(wildInt()), -128, THROWN);
            default -> within("state", car.state(wildInt()), -1, MOST_PROMISED);
        }
    }

    private void oneOctet() {
        boolean last = random.nextInt(8) == 0;
        within("remote", car.remote((byte) random.nextInt(), last), 0, last ? 2 : 0);
    }

    /** Only what the class itself throws has no message: the machine's own names the index. */
    private int octetOrThrown(int i) {
        try {
            return car.octet(i);
        } catch (ArrayIndexOutOfBoundsException e) {
            CHECK.due("octet(" + i + ") is thrown by the class, not by the machine", e.getMessage() == null ? 1 : 0, 1);
            return THROWN;
        }
    }

    private void within(String call, long got, long least, long most) {
        calls++;
        if (calls <= MOST_PROMISED && (got < least || got > most)) {
            CHECK.due(call + " is within " + least + " .. " + most, got, least);
        } else {
            CHECK.due(call, 0, 0);
        }
    }
}
