/** Promise 14: what a door is, how many RELAYS there were, how many questions. */
public final class Promise14StateTest {
    public static void main(String[] args) {
        Check check = new Check("Promise14StateTest");
        DoorKeys x = new DoorKeys(16);
        check.doors("at first", x, "11111");
        x.key(1, 0);
        for (int door : new int[] {-1, 7, 8, 256, 261, Integer.MAX_VALUE, Integer.MIN_VALUE}) {
            check.due("state(" + door + ")", x.state(door), -1);
        }
        x.field(1, 1000, -900, 1);
        check.doors("one OPEN", x, "10111");
        x.lock(0);
        x.lock(1);
        check.doors("all DEAD", x, "22222");
        check.due("RELAYS", x.state(5), 0);
        check.due("questions", x.state(6), 0);
        for (int n = 1; n <= 100; n++) {
            x.field(1, 0, 0, 2000 + n);
            check.due("RELAYS", x.state(5), n);
            x.start(1, 0);
            x.start(1, 0);
            check.due("questions", x.state(6), 2 * n);
        }
        DoorKeys y = new DoorKeys(16);
        check.doors("another object", y, "11111");
        check.due("its RELAYS", y.state(5), 0);
        check.end();
    }
}
