/**
 * Locks of a car and the keys that open them.
 *
 * <p>The promises that this class keeps are numbered in the project's document, DOC.md; the names
 * of states and answers below are that document's words.
 */
public final class DoorKeys {
    private static final int UNKNOWN_NUMBER = -1;
    private static final int OUTSIDE_RANGE = -2;
    private static final int NOT_IN_THIS_STATE = -3;
    private static final int NO_ROOM = -4;

    private static final int MOST_KEYS = 8;
    private static final int LEARNED_AT_ONCE = 2;
    private static final int HIGHEST_COUNTER = 65535;
    private static final int LOW_16_BITS = 0xFFFF;
    private static final long LOW_32_BITS = 0xFFFFFFFFL;

    private static final int WIDEST_SPAN = 32767;
    private static final int USUAL_SPAN = 16;

    private static final int REFUSED = 0;
    private static final int TAKEN = 1;
    private static final int SECOND_AWAITED = 2;

    private static final int COMMAND_OPEN_ALL = 0;
    private static final int COMMAND_LOCK = 1;
    private static final int COMMAND_OPEN_BOOT = 2;
    private static final int COMMAND_DEADEN = 3;

    private static final int KIND_LOCK = 0;
    private static final int KIND_DEADEN = 1;
    private static final int KIND_LOCK_BOOT = 2;
    private static final int KIND_OPEN_ALL = 3;

    private static final int BOOT = 4;
    private static final int STATE_RELAYS = 5;
    private static final int STATE_QUESTIONS = 6;

    private static final long FARTHEST_PLACE = 1000000;
    private static final long LONGEST_MICROS = 2000;
    private static final long INSIDE_X = 2000;
    private static final long INSIDE_Y = 800;

    private static final long QUESTION_STEP = 2654435761L;
    private static final int HIGHEST_SENSOR = 7;

    private final int span;
    private final Key[] keys;
    private int keyCount;
    private Frame coming;
    private Frame ended;
    private final Doors doors;
    private boolean crashed;
    private int relays;
    private int questions;

    public DoorKeys(int span) {
        this.span = span >= 1 && span <= WIDEST_SPAN ? span : USUAL_SPAN;
        this.keys = new Key[MOST_KEYS];
        this.coming = new Frame();
        this.ended = new Frame();
        this.doors = new Doors();
    }

    public int key(long secret, long counter) {
        if (counter < 0 || counter > HIGHEST_COUNTER) {
            return OUTSIDE_RANGE;
        }
        if (isSecretOfAKey(secret)) {
            return NOT_IN_THIS_STATE;
        }
        if (keyCount >= keys.length) {
            return NO_ROOM;
        }
        keys[keyCount] = new Key(secret, (int) counter, keyCount < LEARNED_AT_ONCE);
        keyCount++;
        return keyCount;
    }

    public int remote(byte b, boolean last) {
        coming.keep(b);
        if (!last) {
            return 0;
        }
        Frame whole = coming;
        coming = ended;
        coming.clear();
        ended = whole;
        return judge(whole);
    }

    public long counter(int key) {
        Key found = find(key);
        return found == null ? UNKNOWN_NUMBER : found.counter;
    }

    public int lock(int kind) {
        if (kind < KIND_LOCK || kind > KIND_OPEN_ALL) {
            return OUTSIDE_RANGE;
        }
        if (kind == KIND_OPEN_ALL) {
            return doors.hasAny(Doors.DEAD) ? 0 : doors.openAll();
        }
        if (crashed) {
            return NOT_IN_THIS_STATE;
        }
        if (kind == KIND_DEADEN) {
            return doors.deadenUnlessOpen();
        }
        return kind == KIND_LOCK_BOOT ? doors.shutBoot() : doors.shutAll();
    }

    public int learn(int key, int a, int b) {
        Key pupil = find(key);
        Key first = find(a);
        Key second = find(b);
        // a and b are numbers of keys too: a number of no key is refused before anything is judged.
        if (pupil == null || first == null || second == null) {
            return UNKNOWN_NUMBER;
        }
        if (pupil.learned || a == b || !first.mayTeach() || !second.mayTeach()) {
            return 0;
        }
        pupil.learned = true;
        return 1;
    }

    public int erase(int key) {
        Key found = find(key);
        if (found == null) {
            return UNKNOWN_NUMBER;
        }
        if (!found.learned || learnedKeys() == 1) {
            return 0;
        }
        found.learned = false;
        found.near = false;
        found.inside = false;
        return 1;
    }

    public int field(int key, long x, long y, long micros) {
        Key found = find(key);
        if (found == null) {
            return UNKNOWN_NUMBER;
        }
        if (!isWithin(x, FARTHEST_PLACE) || !isWithin(y, FARTHEST_PLACE) || micros < 1) {
            return OUTSIDE_RANGE;
        }
        boolean inTime = micros <= LONGEST_MICROS;
        if (!inTime) {
            relays++;
        }
        boolean answers = inTime && found.learned;
        int door = doors.nearestTo(x, y);
        found.near = answers && door != Doors.NONE;
        found.inside = answers && isWithin(x, INSIDE_X) && isWithin(y, INSIDE_Y);
        if (found.near && !found.inside) {
            doors.openOne(door);
        }
        return found.isAtHand() ? 1 : 0;
    }

    public int start(int key, long answer) {
        Key found = find(key);
        if (found == null) {
            return UNKNOWN_NUMBER;
        }
        questions++;
        long question = (QUESTION_STEP * questions) & LOW_32_BITS;
        if (!found.learned || !found.inside || answer != found.encipher(question)) {
            return 0;
        }
        crashed = false;
        return 1;
    }

    public int crash() {
        crashed = true;
        return doors.openAll();
    }

    public int alarm(int sensor, long t) {
        if (sensor < 0 || sensor > HIGHEST_SENSOR) {
            return UNKNOWN_NUMBER;
        }
        // The times told begin at 0, so this refuses a time below 0 too.
        if (t < doors.timeTold) {
            return OUTSIDE_RANGE;
        }
        doors.timeTold = t;
        return doors.isGuarded() ? 1 : 0;
    }

    public int battery(int key) {
        Key found = find(key);
        return found == null ? UNKNOWN_NUMBER : found.lowBattery;
    }

    public byte octet(int i) throws ArrayIndexOutOfBoundsException {
        if (!ended.has(i)) {
            throw new ArrayIndexOutOfBoundsException();
        }
        return ended.octets[i];
    }

    public int state(int door) {
        if (door == STATE_RELAYS) {
            return relays;
        }
        if (door == STATE_QUESTIONS) {
            return questions;
        }
        return doors.has(door) ? doors.states[door] : UNKNOWN_NUMBER;
    }

    private Key find(int number) {
        return number >= 1 && number <= keyCount && number <= keys.length ? keys[number - 1] : null;
    }

    private boolean isSecretOfAKey(long secret) {
        for (int number = 1; number <= keyCount; number++) {
            Key other = find(number);
            if (other != null && other.secret == secret) {
                return true;
            }
        }
        return false;
    }

    private int learnedKeys() {
        int learned = 0;
        for (int number = 1; number <= keyCount; number++) {
            Key other = find(number);
            if (other != null && other.learned) {
                learned++;
            }
        }
        return learned;
    }

    private int judge(Frame frame) {
        if (!frame.isSound() || frame.command() > COMMAND_DEADEN) {
            return REFUSED;
        }
        Key sender = find(frame.sender());
        if (sender == null || !sender.learned) {
            return REFUSED;
        }
        long plain = sender.decipher(frame.code());
        if (plain >>> 16 != sender.sign()) {
            return REFUSED;
        }
        int answer = sender.roll((int) plain & LOW_16_BITS, span);
        if (answer == TAKEN) {
            sender.lowBattery = frame.flags() & 1;
            obey(frame.command());
        }
        return answer;
    }

    private void obey(int command) {
        if (command == COMMAND_OPEN_ALL) {
            doors.openAll();
        } else if (command == COMMAND_OPEN_BOOT) {
            doors.openBootUnlessDead();
        } else if (!crashed && command == COMMAND_LOCK) {
            doors.shutAll();
        } else if (!crashed && command == COMMAND_DEADEN) {
            doors.deadenUnlessOpen();
        }
    }

    private static boolean isWithin(long value, long limit) {
        return value >= -limit && value <= limit;
    }

    private static final class Key {
        private static final int ROUNDS = 16;
        private static final int HALF_OF_ALL_COUNTERS = 32768;
        private static final int NOTHING = -1;

        final long secret;
        int counter;
        int awaited;
        boolean learned;
        boolean near;
        boolean inside;
        int lowBattery;

        Key(long secret, int counter, boolean learned) {
            this.secret = secret;
            this.counter = counter;
            this.awaited = NOTHING;
            this.learned = learned;
        }

        boolean isAtHand() {
            return near || inside;
        }

        boolean mayTeach() {
            return learned && isAtHand();
        }

        int roll(int c, int span) {
            int d = (c - counter) & LOW_16_BITS;
            if (d == 0 || d > HALF_OF_ALL_COUNTERS) {
                awaited = NOTHING;
                return REFUSED;
            }
            if (d > span && c != awaited) {
                awaited = (c + 1) & LOW_16_BITS;
                return SECOND_AWAITED;
            }
            counter = c;
            awaited = NOTHING;
            return TAKEN;
        }

        int sign() {
            return part(0) ^ part(1) ^ part(2) ^ part(3);
        }

        long encipher(long plain) {
            int left = (int) (plain >>> 16) & LOW_16_BITS;
            int right = (int) plain & LOW_16_BITS;
            for (int k = 0; k < ROUNDS; k++) {
                int next = left ^ mix(right, k);
                left = right;
                right = next;
            }
            return joined(left, right);
        }

        // Rounds undone in turn find the one text behind a code, where trying all counters would
        // cost 65536 encipherings.
        long decipher(long code) {
            int left = (int) (code >>> 16) & LOW_16_BITS;
            int right = (int) code & LOW_16_BITS;
            for (int k = ROUNDS - 1; k >= 0; k--) {
                int before = right ^ mix(left, k);
                right = left;
                left = before;
            }
            return joined(left, right);
        }

        // Products may wrap round in an int: only their lowest 16 bits are looked at.
        private int mix(int right, int k) {
            int p = part(k);
            int f = (right * 40503 + p * (2 * k + 1)) ^ (right / 32) ^ (p * 8);
            return f & LOW_16_BITS;
        }

        private int part(int k) {
            return (int) (secret >>> (16 * (k & 3))) & LOW_16_BITS;
        }

        private static long joined(int left, int right) {
            return left * 65536L + right;
        }
    }

    private static final class Frame {
        private static final int MOST_KEPT = 16;
        private static final int LENGTH = 8;

        final byte[] octets;
        int kept;

        Frame() {
            this.octets = new byte[MOST_KEPT];
        }

        void clear() {
            kept = 0;
        }

        void keep(byte b) {
            if (kept >= 0 && kept < octets.length) {
                octets[kept] = b;
                kept++;
            }
        }

        boolean has(int i) {
            return i >= 0 && i < kept && i < octets.length;
        }

        boolean isSound() {
            if (kept != LENGTH) {
                return false;
            }
            int sum = 0;
            for (int i = 0; i < LENGTH; i++) {
                sum ^= unsigned(i);
            }
            return sum == 0;
        }

        int sender() {
            return unsigned(0);
        }

        int command() {
            return unsigned(1);
        }

        long code() {
            long code = 0;
            for (int i = 2; i <= 5; i++) {
                code = code * 256 + unsigned(i);
            }
            return code;
        }

        int flags() {
            return unsigned(6);
        }

        private int unsigned(int i) {
            return has(i) ? octets[i] & 0xFF : 0;
        }
    }

    private static final class Doors {
        private static final int OPEN = 0;
        private static final int LOCKED = 1;
        private static final int DEAD = 2;
        private static final int NONE = -1;

        private static final int COUNT = 5;
        private static final int[] PLACE_X = {1000, 1000, -500, -500, -2200};
        private static final int[] PLACE_Y = {900, -900, 900, -900, 0};
        private static final long FARTHEST_NEAR = 1500;
        private static final long TIME_UNTIL_GUARDED = 30;

        final int[] states;
        long timeTold;
        long shutSince;

        Doors() {
            this.states = new int[COUNT];
            for (int i = 0; i < this.states.length; i++) {
                this.states[i] = LOCKED;
            }
        }

        boolean has(int door) {
            return door >= 0 && door < states.length;
        }

        boolean hasAny(int state) {
            for (int i = 0; i < states.length; i++) {
                if (states[i] == state) {
                    return true;
                }
            }
            return false;
        }

        boolean isGuarded() {
            return !hasAny(OPEN) && timeTold - shutSince >= TIME_UNTIL_GUARDED;
        }

        int openAll() {
            return turn(LOCKED, OPEN) + turn(DEAD, OPEN);
        }

        void openOne(int door) {
            put(door, OPEN);
        }

        void openBootUnlessDead() {
            if (!is(BOOT, DEAD)) {
                put(BOOT, OPEN);
            }
        }

        int shutAll() {
            int changed = turn(OPEN, LOCKED);
            noteShut(changed);
            return changed;
        }

        int shutBoot() {
            if (!is(BOOT, OPEN)) {
                return 0;
            }
            put(BOOT, LOCKED);
            noteShut(1);
            return 1;
        }

        int deadenUnlessOpen() {
            return hasAny(OPEN) ? 0 : turn(LOCKED, DEAD);
        }

        int nearestTo(long x, long y) {
            int nearest = NONE;
            long least = FARTHEST_NEAR * FARTHEST_NEAR + 1;
            for (int i = 0; i < PLACE_X.length && i < PLACE_Y.length; i++) {
                long dx = x - PLACE_X[i];
                long dy = y - PLACE_Y[i];
                long square = dx * dx + dy * dy;
                if (square < least) {
                    least = square;
                    nearest = i;
                }
            }
            return nearest;
        }

        private boolean is(int door, int state) {
            return has(door) && states[door] == state;
        }

        private void put(int door, int state) {
            if (has(door)) {
                states[door] = state;
            }
        }

        private int turn(int from, int to) {
            int changed = 0;
            for (int i = 0; i < states.length; i++) {
                if (states[i] == from) {
                    states[i] = to;
                    changed++;
                }
            }
            return changed;
        }

        // Only the call that shuts the last OPEN one begins the time without any OPEN.
        private void noteShut(int changed) {
            if (changed > 0 && !hasAny(OPEN)) {
                shutSince = timeTold;
            }
        }
    }
}
