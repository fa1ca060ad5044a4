import java.util.ArrayList;
import java.util.HashMap;
import java.util.List;
import java.util.Map;

/**
 * The document told a second time, as plainly and slowly as may be: codes are looked up in a table
 * of all counters, doors are texts, and nothing is shared with the class under test.
 */
final class PlainCar {
    private static final long[][] PLACES = {{1000, 900}, {1000, -900}, {-500, 900}, {-500, -900}, {-2200, 0}};
    private static final Map<Long, Map<Long, Integer>> CODES = new HashMap<>();

    static final class PlainKey {
        long secret;
        int counter;
        Integer awaited;
        boolean learned;
        String place = "away";
        int battery;
    }

    final int span;
    final List<PlainKey> keys = new ArrayList<>();
    final String[] doors = {"LOCKED", "LOCKED", "LOCKED", "LOCKED", "LOCKED"};
    private List<Integer> frame = new ArrayList<>();
    private List<Integer> lastFrame = new ArrayList<>();
    private boolean crash;
    private int relays;
    private int questions;
    private long time;
    private long closed;

    PlainCar(int span) {
        this.span = span < 1 || span > 32767 ? 16 : span;
    }

    static Integer counterOf(long secret, long code) {
        return CODES.computeIfAbsent(secret, s -> {
            Map<Long, Integer> table = new HashMap<>();
            for (int c = 0; c < 65536; c++) {
                table.put(Remotes.code(s, c), c);
            }
            return table;
        }).get(code);
    }

    private boolean known(int key) {
        return key >= 1 && key <= keys.size();
    }

    private long count(String state) {
        long count = 0;
        for (String door : doors) {
            count += door.equals(state) ? 1 : 0;
        }
        return count;
    }

    private int turn(int door, boolean when, String to) {
        if (!when || doors[door].equals(to)) {
            return 0;
        }
        boolean wasOpen = count("OPEN") > 0;
        doors[door] = to;
        if (wasOpen && count("OPEN") == 0) {
            closed = time;
        }
        return 1;
    }

    private int turnAll(boolean when, String to) {
        int changed = 0;
        for (int door = 0; door < 5; door++) {
            changed += turn(door, when, to);
        }
        return changed;
    }

    private int lockOpen() {
        int changed = 0;
        for (int door = 0; door < 5; door++) {
            changed += turn(door, doors[door].equals("OPEN"), "LOCKED");
        }
        return changed;
    }

    int key(long secret, long counter) {
        if (counter < 0 || counter > 65535) {
            return -2;
        }
        for (PlainKey other : keys) {
            if (other.secret == secret) {
                return -3;
            }
        }
        if (keys.size() == 8) {
            return -4;
        }
        PlainKey key = new PlainKey();
        key.secret = secret;
        key.counter = (int) counter;
        keys.add(key);
        key.learned = keys.size() <= 2;
        return keys.size();
    }

    int remote(byte b, boolean last) {
        frame.add(b & 255);
        if (!last) {
            return 0;
        }
        lastFrame = frame;
        frame = new ArrayList<>();
        List<Integer> f = lastFrame;
        if (f.size() != 8) {
            return 0;
        }
        int sum = 0;
        for (int i = 0; i < 7; i++) {
            sum ^= f.get(i);
        }
        if (sum != f.get(7) || f.get(1) > 3 || !known(f.get(0)) || !keys.get(f.get(0) - 1).learned) {
            return 0;
        }
        PlainKey key = keys.get(f.get(0) - 1);
        Integer c = counterOf(key.secret, ((f.get(2) * 256L + f.get(3)) * 256 + f.get(4)) * 256 + f.get(5));
        if (c == null) {
            return 0;
        }
        int d = Math.floorMod(c - key.counter, 65536);
        if (d == 0 || d > 32768) {
            key.awaited = null;
            return 0;
        }
        if (d <= span || c.equals(key.awaited)) {
            key.counter = c;
            key.awaited = null;
            key.battery = f.get(6) % 2;
            command(f.get(1));
            return 1;
        }
        key.awaited = (c + 1) % 65536;
        return 2;
    }

    private void command(int command) {
        switch (command) {
            case 0 -> turnAll(true, "OPEN");
            case 1 -> {
                if (!crash) {
                    lockOpen();
                }
            }
            case 2 -> turn(4, !doors[4].equals("DEAD"), "OPEN");
            default -> turnAll(!crash && count("OPEN") == 0, "DEAD");
        }
    }

    long counter(int key) {
        return known(key) ? keys.get(key - 1).counter : -1;
    }

    int lock(int kind) {
        if (kind < 0 || kind > 3) {
            return -2;
        }
        if (kind != 3 && crash) {
            return -3;
        }
        return switch (kind) {
            case 0 -> lockOpen();
            case 1 -> turnAll(count("OPEN") == 0, "DEAD");
            case 2 -> turn(4, doors[4].equals("OPEN"), "LOCKED");
            default -> turnAll(count("DEAD") == 0, "OPEN");
        };
    }

    private boolean teaches(int key) {
        return keys.get(key - 1).learned && !keys.get(key - 1).place.equals("away");
    }

    int learn(int key, int a, int b) {
        if (!known(key) || !known(a) || !known(b)) {
            return -1;
        }
        boolean learns = !keys.get(key - 1).learned && a != b && teaches(a) && teaches(b);
        keys.get(key - 1).learned |= learns;
        return learns ? 1 : 0;
    }

    int erase(int key) {
        if (!known(key)) {
            return -1;
        }
        long others = keys.stream().filter(k -> k.learned && k != keys.get(key - 1)).count();
        if (!keys.get(key - 1).learned || others == 0) {
            return 0;
        }
        keys.get(key - 1).learned = false;
        keys.get(key - 1).place = "away";
        return 1;
    }

    int field(int key, long x, long y, long micros) {
        if (!known(key)) {
            return -1;
        }
        if (x < -1000000 || x > 1000000 || y < -1000000 || y > 1000000 || micros < 1) {
            return -2;
        }
        PlainKey k = keys.get(key - 1);
        k.place = "away";
        if (micros > 2000) {
            relays++;
            return 0;
        }
        if (!k.learned) {
            return 0;
        }
        if (Math.abs(x) <= 2000 && Math.abs(y) <= 800) {
            k.place = "INSIDE";
            return 1;
        }
        int nearest = 0;
        for (int door = 1; door < 5; door++) {
            if (away(door, x, y) < away(nearest, x, y)) {
                nearest = door;
            }
        }
        if (away(nearest, x, y) > 1500) {
            return 0;
        }
        k.place = "NEAR";
        turn(nearest, true, "OPEN");
        return 1;
    }

    private static double away(int door, long x, long y) {
        return Math.sqrt(Math.pow(x - PLACES[door][0], 2) + Math.pow(y - PLACES[door][1], 2));
    }

    int start(int key, long answer) {
        if (!known(key)) {
            return -1;
        }
        questions++;
        PlainKey k = keys.get(key - 1);
        if (k.learned && k.place.equals("INSIDE") && answer == Remotes.e(k.secret, Remotes.question(questions))) {
            crash = false;
            return 1;
        }
        return 0;
    }

    int crash() {
        crash = true;
        return turnAll(true, "OPEN");
    }

    int alarm(int sensor, long t) {
        if (sensor < 0 || sensor > 7) {
            return -1;
        }
        if (t < time || t < 0) {
            return -2;
        }
        time = t;
        return count("OPEN") == 0 && t - closed >= 30 ? 1 : 0;
    }

    int battery(int key) {
        return known(key) ? keys.get(key - 1).battery : -1;
    }

    /** The octet, or 999 where the class is to throw. */
    int octet(int i) {
        return i >= 0 && i < Math.min(16, lastFrame.size()) ? lastFrame.get(i).byteValue() : 999;
    }

    int state(int door) {
        return switch (door) {
            case 0, 1, 2, 3, 4 -> List.of("OPEN", "LOCKED", "DEAD").indexOf(doors[door]);
            case 5 -> relays;
            case 6 -> questions;
            default -> -1;
        };
    }

    int questionsSoFar() {
        return questions;
    }

    long timeTold() {
        return time;
    }
}
