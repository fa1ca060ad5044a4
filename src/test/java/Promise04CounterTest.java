/** Promise 4: a key's COUNTER; -1 there is none. */
public final class Promise04CounterTest {
    private static final Check CHECK = new Check("Promise04CounterTest");

    public static void main(String[] args) {
        ofThreeKeys();
        firstAndLastNumbers();
        aroundTheEnd();
        onlyByFramesTaken();
        CHECK.end();
    }

    private static void ofThreeKeys() {
        DoorKeys x = new DoorKeys(100);
        CHECK.due("before any key", x.counter(1), -1);
        x.key(1, 65535);
        x.key(2, 7);
        x.key(3, 0);
        for (int key : new int[] {0, -1, 4, 8, 9, 256, 257, Integer.MAX_VALUE, Integer.MIN_VALUE}) {
            CHECK.due("counter(" + key + ")", x.counter(key), -1);
        }
        CHECK.due("counter(1)", x.counter(1), 65535);
        CHECK.due("counter(2)", x.counter(2), 7);
        CHECK.due("counter(3), not LEARNED", x.counter(3), 0);
        CHECK.due("past the highest", Remotes.press(x, 1, 1, 0, 9), 1);
        CHECK.due("counter(1)", x.counter(1), 9);
        x.erase(1);
        CHECK.due("of an erased key", x.counter(1), 9);
    }

    /** "-1 there is none", with room for keys and without. */
    private static void firstAndLastNumbers() {
        DoorKeys x = new DoorKeys(16);
        for (int keys = 0; keys <= 8; keys++) {
            CHECK.due("counter(0) of " + keys, x.counter(0), -1);
            CHECK.due("counter(-1) of " + keys, x.counter(-1), -1);
            CHECK.due("the last of " + keys, x.counter(keys), keys == 0 ? -1 : 1000 + keys);
            CHECK.due("one more than " + keys, x.counter(keys + 1), -1);
            x.key(keys, 1001 + keys);
        }
        CHECK.due("the first", x.counter(1), 1001);
    }

    /** "0 .. 65535", modulo 65536. */
    private static void aroundTheEnd() {
        DoorKeys x = new DoorKeys(16);
        x.key(1, 65534);
        Remotes.press(x, 1, 1, 0, 65535);
        CHECK.due("the highest", x.counter(1), 65535);
        Remotes.press(x, 1, 1, 0, 0);
        CHECK.due("the lowest comes next", x.counter(1), 0);
        Remotes.press(x, 1, 1, 0, 65535);
        CHECK.due("no way back", x.counter(1), 0);
        Remotes.press(x, 1, 1, 0, 1);
        CHECK.due("and on", x.counter(1), 1);
    }

    private static void onlyByFramesTaken() {
        DoorKeys x = new DoorKeys(16);
        x.key(1, 500);
        x.key(2, 600);
        Remotes.press(x, 1, 1, 0, 500);
        CHECK.due("d = 0", x.counter(1), 500);
        Remotes.press(x, 1, 1, 0, 499);
        CHECK.due("d = 65535", x.counter(1), 500);
        Remotes.press(x, 1, 1, 0, 517);
        CHECK.due("the first of two", x.counter(1), 500);
        Remotes.press(x, 1, 1, 0, 518);
        CHECK.due("the second of two", x.counter(1), 518);
        CHECK.due("another key's", x.counter(2), 600);
        CHECK.due("asking changes nothing", x.counter(1), 518);
    }
}
