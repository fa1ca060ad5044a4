import java.util.ArrayList;
import java.util.List;

/**
 * 'Terms', REFUSALS: they answer the first number that fits, and change nothing. Of two objects with
 * the same calls behind them one is given a call that is refused, and both then answer alike whatever
 * is asked of them.
 */
public final class RefusalsTest {
    private static final Check CHECK = new Check("RefusalsTest");
    private static final int THROWS = 999;
    private static final long SPARE_SECRET = 987654321;
    private static final int SITUATIONS = 7;
    private static final int PROBES = 9;

    /** A call that can be made on several objects. */
    private interface Call {
        long on(DoorKeys x);
    }

    private record Refusal(String name, long answer, Call call) {
    }

    public static void main(String[] args) {
        for (int situation = 0; situation < SITUATIONS; situation++) {
            for (Refusal refusal : refusals(situation)) {
                for (int probe = 0; probe < PROBES; probe++) {
                    compare(situation, refusal, probe);
                }
            }
            for (byte[] frame : refusedFrames(situation)) {
                for (int probe = 1; probe < PROBES; probe++) {
                    compareBehindFrame(situation, frame, probe);
                }
            }
        }
        CHECK.end();
    }

    private static void compare(int situation, Refusal refusal, int probe) {
        DoorKeys with = situated(situation, true);
        DoorKeys without = situated(situation, true);
        String name = "situation " + situation + ", " + refusal.name;
        CHECK.due(name, refusal.call.on(with), refusal.answer);
        CHECK.due(name + " again", refusal.call.on(with), refusal.answer);
        same(name + ", probe " + probe, answers(with, probe), answers(without, probe));
    }

    /** A refused frame is still the last one that came to its end, so the octets are not compared. */
    private static void compareBehindFrame(int situation, byte[] frame, int probe) {
        DoorKeys with = situated(situation, false);
        DoorKeys without = situated(situation, false);
        String name = "situation " + situation + ", a frame of " + frame.length + " of key " + frame[0];
        CHECK.due(name, Remotes.send(with, frame), 0);
        same(name + ", probe " + probe, answers(with, probe), answers(without, probe));
    }

    private static void same(String name, List<Long> got, List<Long> want) {
        CHECK.due(name + ": how many answers", got.size(), want.size());
        for (int i = 0; i < Math.min(got.size(), want.size()); i++) {
            CHECK.due(name + ", answer " + i, got.get(i), want.get(i));
        }
    }

    private static int keysIn(int situation) {
        return new int[] {0, 1, 3, 8, 8, 4, 2}[situation];
    }

    private static boolean isCrashed(int situation) {
        return situation == 4;
    }

    private static long timeIn(int situation) {
        return new long[] {0, 0, 25, 100, 60, 29, Long.MAX_VALUE - 10}[situation];
    }

    private static DoorKeys situated(int situation, boolean frameBegun) {
        DoorKeys x = new DoorKeys(16);
        int keys = keysIn(situation);
        for (int key = 1; key <= keys; key++) {
            x.key(key, 100);
        }
        if (keys >= 2) {
            x.field(1, 0, 0, 1);
            x.field(2, 1000, 2000, 1);
            Remotes.press(x, 1, 1, 2, 101, 1);
            Remotes.press(x, 1, 1, 0, 1000, 0);
            Remotes.press(x, 2, 2, 0, 65535, 0);
            x.start(1, 0);
            x.field(2, 5, 5, 3000);
            x.field(2, 1000, 2000, 1);
        }
        if (keys >= 4) {
            x.learn(keys, 1, 2);
            x.lock(0);
            x.lock(1);
            x.field(1, 0, 0, 1);
        }
        if (isCrashed(situation)) {
            x.crash();
        }
        x.alarm(0, timeIn(situation));
        if (situation == 5 || situation == 6) {
            x.lock(0);
        }
        if (frameBegun && situation % 2 == 0) {
            byte[] frame = Remotes.frame(1, 3, Remotes.code(1, 1001), 0);
            for (int i = 0; i < 3; i++) {
                x.remote(frame[i], false);
            }
        }
        return x;
    }

    private static List<Refusal> refusals(int situation) {
        List<Refusal> all = new ArrayList<>();
        int keys = keysIn(situation);
        ofKeys(all, keys);
        ofNumbers(all, keys, new int[] {0, -1, keys + 1, 9, 256 + keys, Integer.MAX_VALUE, Integer.MIN_VALUE});
        if (keys > 0) {
            ofFields(all, keys);
        }
        ofLocks(all, isCrashed(situation));
        ofAlarms(all, timeIn(situation));
        for (int door : new int[] {-1, 7, Integer.MAX_VALUE, Integer.MIN_VALUE}) {
            all.add(new Refusal("state(" + door + ")", -1, x -> x.state(door)));
        }
        for (int i : new int[] {-1, keys >= 2 ? 8 : 0, 16, Integer.MAX_VALUE, Integer.MIN_VALUE}) {
            all.add(new Refusal("octet(" + i + ")", THROWS, x -> octet(x, i)));
        }
        return all;
    }

    private static void ofKeys(List<Refusal> all, int keys) {
        for (long counter : new long[] {-1, 65536, 1L << 32, Long.MIN_VALUE, Long.MAX_VALUE}) {
            all.add(new Refusal("key(new, " + counter + ")", -2, x -> x.key(SPARE_SECRET, counter)));
            if (keys > 0) {
                all.add(new Refusal("key(known, " + counter + ")", -2, x -> x.key(keys, counter)));
            }
        }
        for (int key = 1; key <= keys; key++) {
            long secret = key;
            all.add(new Refusal("key(" + secret + ", 5)", -3, x -> x.key(secret, 5)));
        }
        if (keys == 8) {
            all.add(new Refusal("a ninth key", -4, x -> x.key(SPARE_SECRET, 5)));
        }
    }

    private static void ofNumbers(List<Refusal> all, int keys, int[] none) {
        for (int key : none) {
            all.add(new Refusal("counter(" + key + ")", -1, x -> x.counter(key)));
            all.add(new Refusal("battery(" + key + ")", -1, x -> x.battery(key)));
            all.add(new Refusal("erase(" + key + ")", -1, x -> x.erase(key)));
            all.add(new Refusal("start(" + key + ")", -1, x -> x.start(key, 0)));
            all.add(new Refusal("field(" + key + ", NEAR)", -1, x -> x.field(key, 1000, 900, 1)));
            all.add(new Refusal("field(" + key + ", RELAY)", -1, x -> x.field(key, 0, 0, 2001)));
            all.add(new Refusal("field(" + key + ", no place)", -1, x -> x.field(key, 1000001, 0, 0)));
            all.add(new Refusal("learn(" + key + ", 1, 2)", -1, x -> x.learn(key, 1, 2)));
            all.add(new Refusal("learn(k, " + key + ", 2)", -1, x -> x.learn(keys, key, 2)));
            all.add(new Refusal("learn(k, 1, " + key + ")", -1, x -> x.learn(keys, 1, key)));
        }
    }

    private static void ofFields(List<Refusal> all, int keys) {
        for (int key : new int[] {1, keys}) {
            for (long place : new long[] {-1000001, 1000001, Long.MIN_VALUE, Long.MAX_VALUE}) {
                all.add(new Refusal("field(" + key + ", " + place + ", 0)", -2, x -> x.field(key, place, 0, 1)));
                all.add(new Refusal("field(" + key + ", 0, " + place + ")", -2, x -> x.field(key, 0, place, 2001)));
            }
            for (long micros : new long[] {0, -1, Long.MIN_VALUE}) {
                all.add(new Refusal("field(" + key + ", .., " + micros + ")", -2, x -> x.field(key, 1000, 900, micros)));
            }
        }
    }

    private static void ofLocks(List<Refusal> all, boolean crashed) {
        for (int kind : new int[] {-1, 4, Integer.MAX_VALUE, Integer.MIN_VALUE}) {
            all.add(new Refusal("lock(" + kind + ")", -2, x -> x.lock(kind)));
        }
        for (int kind = 0; kind <= 2 && crashed; kind++) {
            int each = kind;
            all.add(new Refusal("lock(" + kind + ")", -3, x -> x.lock(each)));
        }
    }

    private static void ofAlarms(List<Refusal> all, long time) {
        for (int sensor : new int[] {-1, 8, Integer.MAX_VALUE, Integer.MIN_VALUE}) {
            all.add(new Refusal("alarm(" + sensor + ", -1)", -1, x -> x.alarm(sensor, -1)));
            all.add(new Refusal("alarm(" + sensor + ", later)", -1, x -> x.alarm(sensor, time + 5)));
        }
        for (long t : new long[] {time - 1, -1, Long.MIN_VALUE}) {
            all.add(new Refusal("alarm(7, " + t + ")", -2, x -> x.alarm(7, t)));
        }
    }

    /** Refused before their counter is looked at, so that what is awaited stays too. */
    private static List<byte[]> refusedFrames(int situation) {
        List<byte[]> all = new ArrayList<>();
        byte[] good = Remotes.frame(1, 0, Remotes.code(1, 102), 1);
        for (int length : new int[] {1, 7, 9, 16, 17, 24}) {
            byte[] octets = new byte[length];
            System.arraycopy(good, 0, octets, 0, Math.min(length, 8));
            all.add(octets);
        }
        for (int i = 0; i < 8; i++) {
            byte[] wrongSum = good.clone();
            wrongSum[i] ^= (byte) 128;
            all.add(wrongSum);
        }
        all.add(Remotes.frame(1, 4, Remotes.code(1, 102), 1));
        all.add(Remotes.frame(1, 255, Remotes.code(1, 102), 1));
        all.add(Remotes.frame(1, 0, Remotes.code(1, 102) ^ 1, 1));
        all.add(Remotes.frame(1, 0, Remotes.code(2, 102), 1));
        all.add(Remotes.frame(0, 0, Remotes.code(1, 102), 1));
        int next = keysIn(situation) + 1;
        all.add(Remotes.frame(next, 0, Remotes.code(next, 102), 1));
        if (next > 4) {
            all.add(Remotes.frame(3, 0, Remotes.code(3, 102), 1));
        }
        return all;
    }

    private static long octet(DoorKeys x, int i) {
        try {
            return x.octet(i);
        } catch (ArrayIndexOutOfBoundsException e) {
            return THROWS;
        }
    }

    /** All that can be asked without a change, behind calls that bring out what can't be asked. */
    private static List<Long> answers(DoorKeys x, int probe) {
        List<Long> said = new ArrayList<>();
        switch (probe) {
            case 0 -> {
                for (int i = 0; i <= 16; i++) {
                    said.add(octet(x, i));
                }
            }
            case 1 -> endTheFrame(x, said);
            case 2 -> pressAwaited(x, said);
            case 3 -> startWithEach(x, said);
            case 4 -> learnAndErase(x, said);
            case 5 -> soundAlarms(x, said);
            case 6 -> makeKeys(x, said);
            case 7 -> lockAll(x, said);
            default -> pressOften(x, said);
        }
        for (int i = 0; i <= 9; i++) {
            said.add(x.counter(i));
            said.add((long) x.battery(i));
            said.add((long) x.state(i));
        }
        return said;
    }

    private static void endTheFrame(DoorKeys x, List<Long> said) {
        byte[] frame = Remotes.frame(1, 3, Remotes.code(1, 1001), 0);
        for (int i = 3; i < 8; i++) {
            said.add((long) x.remote(frame[i], i == 7));
        }
    }

    private static void pressAwaited(DoorKeys x, List<Long> said) {
        x.remote((byte) 0, true);
        said.add((long) Remotes.press(x, 1, 1, 1, 1001));
        said.add((long) Remotes.press(x, 2, 2, 1, 0));
        said.add((long) Remotes.press(x, 3, 3, 1, 101));
    }

    private static void startWithEach(DoorKeys x, List<Long> said) {
        for (int key = 1; key <= 8; key++) {
            said.add((long) x.start(key, Remotes.e(key, Remotes.question(x.state(6) + 1))));
            said.add((long) x.lock(2));
        }
    }

    private static void learnAndErase(DoorKeys x, List<Long> said) {
        for (int key = 3; key <= 8; key++) {
            said.add((long) x.learn(key, 1, 2));
        }
        for (int key = 1; key <= 8; key++) {
            said.add((long) x.erase(key));
        }
    }

    private static void soundAlarms(DoorKeys x, List<Long> said) {
        for (long t : new long[] {0, 24, 25, 29, 30, 31, 54, 55, 58, 59, 60, 90, 99, 100, 129, 130, Long.MAX_VALUE - 11,
            Long.MAX_VALUE - 10, Long.MAX_VALUE - 9}) {
            said.add((long) x.alarm(0, t));
        }
    }

    private static void makeKeys(DoorKeys x, List<Long> said) {
        for (int i = 0; i < 9; i++) {
            int made = x.key(SPARE_SECRET + i, 50);
            said.add((long) made);
            said.add((long) x.field(made, 1000, 900, 1));
        }
    }

    private static void lockAll(DoorKeys x, List<Long> said) {
        for (int kind : new int[] {3, 1, 2, 0, 1, 3}) {
            said.add((long) x.lock(kind));
        }
        said.add((long) x.crash());
        said.add((long) x.lock(0));
    }

    private static void pressOften(DoorKeys x, List<Long> said) {
        x.remote((byte) 0, true);
        for (int counter : new int[] {101, 102, 118, 119, 1000, 1001}) {
            for (int key = 1; key <= 8; key++) {
                said.add((long) Remotes.press(x, key, key, 1, counter, 1));
            }
        }
    }
}
