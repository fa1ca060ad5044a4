import java.util.Random;

/** Runs of calls from fixed seeds, each answer held against PlainCar's. */
public final class RandomRunsTest {
    private static final int RUNS = 3000;
    private static final int CALLS = 512;
    private static final int MOST_WRONG_SHOWN = 20;
    private static final long[] SECRETS = {0xFEDCBA9876543210L, 5, 0, -1, 0x8000000000000000L, 77, 0x0001000200030004L,
        0x123456789ABCDEFL, 0x7FFFFFFFFFFFFFFFL, 42};
    private static final int[] SPANS = {1, 2, 16, 16, 16, 300, 32767, 0, -5, 32768};
    private static final int[] STEPS = {0, 1, 1, 1, 2, 15, 16, 17, 18, 299, 300, 301, 32766, 32767, 32768, 32769, 65535};
    private static final long[] EDGES_X = {0, 1000, -500, -2200, 2000, 2001, -2000, -2001, 250, 2500, 2501, -3700, -3701,
        1000000, 1000001, -1000000, -1000001};
    private static final long[] EDGES_Y = {0, 900, -900, 800, 801, -800, -801, 2400, 2401, -2400, -2401, 1000000, 1000001};
    private static final long[] EDGES_MICROS = {1, 1, 1, 1, 1500, 2000, 2000, 2001, 0, -1, Long.MAX_VALUE};

    private final Check check;
    private final Random random;
    private final DoorKeys car;
    private final PlainCar plain;
    private final String name;
    private int calls;

    private RandomRunsTest(Check check, int seed) {
        this.check = check;
        this.random = new Random(seed);
        int span = SPANS[random.nextInt(SPANS.length)];
        this.car = new DoorKeys(span);
        this.plain = new PlainCar(span);
        this.name = "run " + seed + " ";
    }

    public static void main(String[] args) {
        Check check = new Check("RandomRunsTest");
        for (int seed = 1; seed <= RUNS && check.wrongSoFar() < MOST_WRONG_SHOWN; seed++) {
            new RandomRunsTest(check, seed).run();
        }
        check.end();
    }

    private void run() {
        int room = 2 + random.nextInt(3);
        for (int i = 0; i < room; i++) {
            makeKey();
        }
        while (calls < CALLS - 60) {
            act(random.nextInt(20));
            look();
        }
        for (int i = -1; i <= 9; i++) {
            lookAt(0, i);
            lookAt(1, i);
            lookAt(2, i);
            lookAt(3, 2 * i);
        }
    }

    private void act(int kind) {
        if (kind == 0) {
            makeKey();
        } else if (kind <= 6) {
            sendFrame();
        } else if (kind <= 10) {
            tellField();
        } else if (kind <= 12) {
            int lock = random.nextInt(30) == 0 ? random.nextInt() : random.nextInt(4);
            due("lock(" + lock + ")", car.lock(lock), plain.lock(lock));
        } else if (kind <= 14) {
            int key = someKey();
            int a = someKey();
            int b = someKey();
            due("learn(" + key + ", " + a + ", " + b + ")", car.learn(key, a, b), plain.learn(key, a, b));
        } else if (kind == 15) {
            int key = someKey();
            due("erase(" + key + ")", car.erase(key), plain.erase(key));
        } else if (kind <= 17) {
            askToStart();
        } else if (kind == 18) {
            soundAlarm();
        } else if (random.nextInt(4) == 0) {
            due("crash()", car.crash(), plain.crash());
        }
    }

    private void makeKey() {
        long secret = SECRETS[random.nextInt(SECRETS.length)];
        long counter = random.nextInt(8) == 0 ? random.nextInt(65600) - 20 : random.nextInt(65536);
        due("key(" + secret + ", " + counter + ")", car.key(secret, counter), plain.key(secret, counter));
    }

    private int someKey() {
        return random.nextInt(25) == 0 ? random.nextInt(13) - 2 : 1 + random.nextInt(Math.max(1, plain.keys.size()));
    }

    private void sendFrame() {
        int number = someKey();
        boolean known = number >= 1 && number <= plain.keys.size();
        PlainCar.PlainKey key = known ? plain.keys.get(number - 1) : new PlainCar.PlainKey();
        int counter = key.counter + STEPS[random.nextInt(STEPS.length)];
        if (key.awaited != null && random.nextInt(3) > 0) {
            counter = key.awaited;
        }
        int command = random.nextInt(15) == 0 ? random.nextInt(256) : random.nextInt(4);
        byte[] octets = Remotes.frame(number, command, Remotes.code(key.secret, counter), random.nextInt(256));
        if (random.nextInt(12) == 0) {
            octets[random.nextInt(8)] ^= 1 << random.nextInt(8);
        }
        if (random.nextInt(20) == 0) {
            octets[2 + random.nextInt(4)] ^= 16;
            octets[7] ^= 16;
        }
        int length = random.nextInt(20) == 0 ? 1 + random.nextInt(20) : 8;
        for (int i = 0; i < length; i++) {
            byte b = i < 8 ? octets[i] : (byte) random.nextInt(256);
            due("remote(" + b + ")", car.remote(b, i == length - 1), plain.remote(b, i == length - 1));
            if (random.nextInt(30) == 0) {
                look();
            }
        }
    }

    private void tellField() {
        int key = someKey();
        boolean edge = random.nextBoolean();
        long x = edge ? EDGES_X[random.nextInt(EDGES_X.length)] : random.nextInt(8000) - 4000;
        long y = edge ? EDGES_Y[random.nextInt(EDGES_Y.length)] : random.nextInt(5200) - 2600;
        long micros = EDGES_MICROS[random.nextInt(EDGES_MICROS.length)];
        due("field(" + key + ", " + x + ", " + y + ", " + micros + ")",
                car.field(key, x, y, micros), plain.field(key, x, y, micros));
    }

    private void askToStart() {
        int key = someKey();
        long answer = random.nextInt();
        if (key >= 1 && key <= plain.keys.size() && random.nextInt(5) > 0) {
            answer = Remotes.e(plain.keys.get(key - 1).secret, Remotes.question(plain.questionsSoFar() + 1));
        }
        due("start(" + key + ", " + answer + ")", car.start(key, answer), plain.start(key, answer));
    }

    private void soundAlarm() {
        int sensor = random.nextInt(10) == 0 ? random.nextInt(12) - 2 : random.nextInt(8);
        long t = plain.timeTold() + (random.nextInt(10) == 0 ? -random.nextInt(40) : random.nextInt(35));
        due("alarm(" + sensor + ", " + t + ")", car.alarm(sensor, t), plain.alarm(sensor, t));
    }

    private void look() {
        lookAt(random.nextInt(4), random.nextInt(22) - 3);
        lookAt(0, random.nextInt(7));
    }

    private void lookAt(int what, int i) {
        switch (what) {
            case 0 -> due("state(" + i + ")", car.state(i), plain.state(i));
            case 1 -> due("counter(" + i + ")", car.counter(i), plain.counter(i));
            case 2 -> due("battery(" + i + ")", car.battery(i), plain.battery(i));
            default -> due("octet(" + i + ")", octetOrThrow(i), plain.octet(i));
        }
    }

    private int octetOrThrow(int i) {
        try {
            return car.octet(i);
        } catch (ArrayIndexOutOfBoundsException e) {
            return 999;
        }
    }

    private void due(String call, long got, long want) {
        calls++;
        check.due(name + calls + ": " + call, got, want);
    }
}
