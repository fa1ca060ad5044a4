/** Promise 12: a key's BATTERY: bit 0 of the flags of its last frame that was taken. */
public final class Promise12BatteryTest {
    private static final Check CHECK = new Check("Promise12BatteryTest");

    public static void main(String[] args) {
        ofThreeKeys();
        everyFlags();
        firstAndLastNumbers();
        CHECK.end();
    }

    private static void ofThreeKeys() {
        DoorKeys x = new DoorKeys(16);
        CHECK.due("no key", x.battery(1), -1);
        x.key(1, 0);
        x.key(2, 0);
        x.key(3, 0);
        for (int key : new int[] {0, -1, 4, 9, 257, Integer.MAX_VALUE, Integer.MIN_VALUE}) {
            CHECK.due("battery(" + key + ")", x.battery(key), -1);
        }
        for (int key = 1; key <= 3; key++) {
            CHECK.due("at first", x.battery(key), 0);
        }
        int counter = 0;
        for (int flags : new int[] {1, 0, 255, 254, 3, 2, 129, 128}) {
            counter++;
            CHECK.due("taken", Remotes.press(x, 1, 1, 0, counter, flags), 1);
            CHECK.due("flags " + flags, x.battery(1), flags & 1);
            CHECK.due("of another key", x.battery(2), 0);
        }
        Remotes.press(x, 1, 1, 0, 9, 1);
        Remotes.press(x, 1, 1, 0, 9, 0);
        CHECK.due("a refused frame", x.battery(1), 1);
        Remotes.press(x, 1, 1, 0, 500, 0);
        CHECK.due("the first of two", x.battery(1), 1);
        x.erase(1);
        CHECK.due("of an erased key", x.battery(1), 1);
        Remotes.press(x, 1, 1, 0, 10, 0);
        CHECK.due("a frame of an erased key", x.battery(1), 1);
    }

    /** "bit 0 of its flags": the other seven are nothing. */
    private static void everyFlags() {
        for (int flags = 0; flags <= 255; flags++) {
            DoorKeys x = new DoorKeys(16);
            x.key(1, 0);
            CHECK.due("taken", Remotes.press(x, 1, 1, 0, 1, 1 - (flags & 1)), 1);
            CHECK.due("before", x.battery(1), 1 - (flags & 1));
            CHECK.due("flags " + flags, Remotes.press(x, 1, 1, 0, 2, flags), 1);
            CHECK.due("battery", x.battery(1), flags & 1);
        }
    }

    /** "-1 there is none", with room for keys and without. */
    private static void firstAndLastNumbers() {
        DoorKeys x = new DoorKeys(16);
        for (int keys = 0; keys <= 8; keys++) {
            CHECK.due("battery(0) of " + keys, x.battery(0), -1);
            CHECK.due("the last of " + keys, x.battery(keys), keys == 0 ? -1 : 0);
            CHECK.due("one more than " + keys, x.battery(keys + 1), -1);
            x.key(keys, 0);
        }
        x.field(1, 0, 0, 1);
        x.field(2, 0, 0, 1);
        x.learn(8, 1, 2);
        CHECK.due("a frame of the last", Remotes.press(x, 8, 7, 1, 1, 1), 1);
        for (int key = 1; key <= 8; key++) {
            CHECK.due("battery(" + key + ")", x.battery(key), key == 8 ? 1 : 0);
        }
    }
}
