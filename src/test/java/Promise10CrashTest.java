/** Promise 10: a CRASH opens all: how many became another. */
public final class Promise10CrashTest {
    public static void main(String[] args) {
        Check check = new Check("Promise10CrashTest");
        DoorKeys x = new DoorKeys(16);
        x.key(1, 0);
        check.due("from LOCKED", x.crash(), 5);
        check.doors("from LOCKED", x, "00000");
        check.due("from OPEN", x.crash(), 0);
        DoorKeys y = new DoorKeys(16);
        y.key(1, 0);
        y.lock(1);
        check.due("from DEAD", y.crash(), 5);
        check.doors("from DEAD", y, "00000");
        DoorKeys z = new DoorKeys(16);
        z.key(1, 0);
        z.lock(1);
        z.field(1, 1000, -900, 1);
        z.lock(0);
        z.field(1, -500, 900, 1);
        check.doors("one of each", z, "21022");
        check.due("from all kinds", z.crash(), 4);
        check.doors("from all kinds", z, "00000");
        check.due("not locked behind it", z.lock(0), -3);
        check.due("nor the boot", z.lock(2), -3);
        check.due("nor deadened", z.lock(1), -3);
        check.end();
    }
}
