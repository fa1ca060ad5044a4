/** Promise 5: locking from inside: how many became another. -2 no such kind, -3 behind a CRASH (0 to 2). */
public final class Promise05LockTest {
    private static final Check CHECK = new Check("Promise05LockTest");

    public static void main(String[] args) {
        kinds();
        someDead();
        refusals();
        CHECK.end();
    }

    private static DoorKeys fresh() {
        DoorKeys x = new DoorKeys(16);
        x.key(1, 0);
        return x;
    }

    private static void kinds() {
        DoorKeys x = fresh();
        CHECK.due("0, none OPEN", x.lock(0), 0);
        CHECK.due("2, boot LOCKED", x.lock(2), 0);
        CHECK.due("3", x.lock(3), 5);
        CHECK.doors("3", x, "00000");
        CHECK.due("3 again", x.lock(3), 0);
        CHECK.due("1, all OPEN", x.lock(1), 0);
        CHECK.doors("1, all OPEN", x, "00000");
        CHECK.due("2", x.lock(2), 1);
        CHECK.doors("2", x, "00001");
        CHECK.due("2 again", x.lock(2), 0);
        CHECK.due("1, some OPEN", x.lock(1), 0);
        CHECK.doors("1, some OPEN", x, "00001");
        CHECK.due("0", x.lock(0), 4);
        CHECK.doors("0", x, "11111");
        x.field(1, -2200, 1, 1);
        x.field(1, -2200, 1400, 1);
        CHECK.doors("boot by its field", x, "11110");
        CHECK.due("3 from the boot on", x.lock(3), 4);
        x.lock(0);
        CHECK.due("1", x.lock(1), 5);
        CHECK.doors("1", x, "22222");
        CHECK.due("1 again", x.lock(1), 0);
        CHECK.due("0, all DEAD", x.lock(0), 0);
        CHECK.due("2, all DEAD", x.lock(2), 0);
        CHECK.due("3, all DEAD", x.lock(3), 0);
        CHECK.doors("3, all DEAD", x, "22222");
    }

    private static void someDead() {
        DoorKeys x = fresh();
        x.lock(1);
        x.field(1, 1000, 900, 1);
        x.field(1, -500, -900, 1);
        CHECK.doors("two by their fields", x, "02202");
        CHECK.due("3, some DEAD", x.lock(3), 0);
        CHECK.due("1, some OPEN", x.lock(1), 0);
        CHECK.doors("nothing changed", x, "02202");
        CHECK.due("2, boot DEAD", x.lock(2), 0);
        CHECK.due("0", x.lock(0), 2);
        CHECK.doors("0", x, "12212");
        CHECK.due("3, LOCKED and DEAD", x.lock(3), 0);
        CHECK.due("1, LOCKED and DEAD", x.lock(1), 2);
        CHECK.doors("1", x, "22222");
    }

    private static void refusals() {
        DoorKeys x = fresh();
        int[] none = {-1, 4, 5, 256, Integer.MAX_VALUE, Integer.MIN_VALUE};
        for (int kind : none) {
            CHECK.due("lock(" + kind + ")", x.lock(kind), -2);
        }
        x.crash();
        for (int kind : none) {
            CHECK.due("lock(" + kind + ") behind a CRASH", x.lock(kind), -2);
        }
        for (int kind = 0; kind <= 2; kind++) {
            CHECK.due("lock(" + kind + ") behind a CRASH", x.lock(kind), -3);
        }
        CHECK.due("lock(3) behind a CRASH", x.lock(3), 0);
        CHECK.doors("behind a CRASH", x, "00000");
        x.field(1, 0, 0, 1);
        x.start(1, Remotes.e(1, Remotes.question(1)));
        CHECK.due("lock(2) behind a start", x.lock(2), 1);
        CHECK.due("lock(0) behind a start", x.lock(0), 4);
        CHECK.due("lock(1) behind a start", x.lock(1), 5);
    }
}
