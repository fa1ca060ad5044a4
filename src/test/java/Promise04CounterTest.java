/** Promise 4: a key's COUNTER; -1 there is none. */
public final class Promise04CounterTest {
    public static void main(String[] args) {
        Check check = new Check("Promise04CounterTest");
        DoorKeys x = new DoorKeys(100);
        check.due("before any key", x.counter(1), -1);
        x.key(1, 65535);
        x.key(2, 7);
        x.key(3, 0);
        for (int key : new int[] {0, -1, 4, 8, 9, 256, 257, Integer.MAX_VALUE, Integer.MIN_VALUE}) {
            check.due("counter(" + key + ")", x.counter(key), -1);
        }
        check.due("counter(1)", x.counter(1), 65535);
        check.due("counter(2)", x.counter(2), 7);
        check.due("counter(3), not LEARNED", x.counter(3), 0);
        check.due("past the highest", Remotes.press(x, 1, 1, 0, 9), 1);
        check.due("counter(1)", x.counter(1), 9);
        x.erase(1);
        check.due("of an erased key", x.counter(1), 9);
        check.end();
    }
}
