/** Promise 12: a key's BATTERY: bit 0 of the flags of its last frame that was taken. */
public final class Promise12BatteryTest {
    public static void main(String[] args) {
        Check check = new Check("Promise12BatteryTest");
        DoorKeys x = new DoorKeys(16);
        check.due("no key", x.battery(1), -1);
        x.key(1, 0);
        x.key(2, 0);
        x.key(3, 0);
        for (int key : new int[] {0, -1, 4, 9, 257, Integer.MAX_VALUE, Integer.MIN_VALUE}) {
            check.due("battery(" + key + ")", x.battery(key), -1);
        }
        for (int key = 1; key <= 3; key++) {
            check.due("at first", x.battery(key), 0);
        }
        int counter = 0;
        for (int flags : new int[] {1, 0, 255, 254, 3, 2, 129, 128}) {
            counter++;
            check.due("taken", Remotes.press(x, 1, 1, 0, counter, flags), 1);
            check.due("flags " + flags, x.battery(1), flags & 1);
            check.due("of another key", x.battery(2), 0);
        }
        Remotes.press(x, 1, 1, 0, 9, 1);
        Remotes.press(x, 1, 1, 0, 9, 0);
        check.due("a refused frame", x.battery(1), 1);
        Remotes.press(x, 1, 1, 0, 500, 0);
        check.due("the first of two", x.battery(1), 1);
        x.erase(1);
        check.due("of an erased key", x.battery(1), 1);
        Remotes.press(x, 1, 1, 0, 10, 0);
        check.due("a frame of an erased key", x.battery(1), 1);
        check.end();
    }
}
