/** Promise 5: locking from inside: how many became another. -2 no such kind, -3 behind a CRASH (0 to 2). */
public final class Promise05LockTest {
    private static final long[][] PLACES = {{1000, 900}, {1000, -900}, {-500, 900}, {-500, -900}, {-2200, 0}};
    private static final Check CHECK = new Check("Promise05LockTest");

    public static void main(String[] args) {
        kinds();
        someDead();
        refusals();
        oneOpenOfFive();
        oneDeadOfFive();
        onlyTheBoot();
        howManyBecameAnother();
        refusedBehindACrashOnly();
        CHECK.end();
    }

    private static DoorKeys fresh() {
        DoorKeys x = new DoorKeys(16);
        x.key(1, 0);
        return x;
    }

    private static void kinds() {
        DoorKeys x = fresh();
        CHECK.due("0, none OPEN", x.lock(0), 0);
        CHECK.due("2, boot LOCKED", x.lock(2), 0);
        CHECK.due("3", x.lock(3), 5);
        CHECK.doors("3", x, "00000");
        CHECK.due("3 again", x.lock(3), 0);
        CHECK.due("1, all OPEN", x.lock(1), 0);
        CHECK.doors("1, all OPEN", x, "00000");
        CHECK.due("2", x.lock(2), 1);
        CHECK.doors("2", x, "00001");
        CHECK.due("2 again", x.lock(2), 0);
        CHECK.due("1, some OPEN", x.lock(1), 0);
        CHECK.doors("1, some OPEN", x, "00001");
        CHECK.due("0", x.lock(0), 4);
        CHECK.doors("0", x, "11111");
        x.field(1, -2200, 1, 1);
        x.field(1, -2200, 1400, 1);
        CHECK.doors("boot by its field", x, "11110");
        CHECK.due("3 from the boot on", x.lock(3), 4);
        x.lock(0);
        CHECK.due("1", x.lock(1), 5);
        CHECK.doors("1", x, "22222");
        CHECK.due("1 again", x.lock(1), 0);
        CHECK.due("0, all DEAD", x.lock(0), 0);
        CHECK.due("2, all DEAD", x.lock(2), 0);
        CHECK.due("3, all DEAD", x.lock(3), 0);
        CHECK.doors("3, all DEAD", x, "22222");
    }

    private static void someDead() {
        DoorKeys x = fresh();
        x.lock(1);
        x.field(1, 1000, 900, 1);
        x.field(1, -500, -900, 1);
        CHECK.doors("two by their fields", x, "02202");
        CHECK.due("3, some DEAD", x.lock(3), 0);
        CHECK.due("1, some OPEN", x.lock(1), 0);
        CHECK.doors("nothing changed", x, "02202");
        CHECK.due("2, boot DEAD", x.lock(2), 0);
        CHECK.due("0", x.lock(0), 2);
        CHECK.doors("0", x, "12212");
        CHECK.due("3, LOCKED and DEAD", x.lock(3), 0);
        CHECK.due("1, LOCKED and DEAD", x.lock(1), 2);
        CHECK.doors("1", x, "22222");
    }

    private static void refusals() {
        DoorKeys x = fresh();
        int[] none = {-1, 4, 5, 256, Integer.MAX_VALUE, Integer.MIN_VALUE};
        for (int kind : none) {
            CHECK.due("lock(" + kind + ")", x.lock(kind), -2);
        }
        x.crash();
        for (int kind : none) {
            CHECK.due("lock(" + kind + ") behind a CRASH", x.lock(kind), -2);
        }
        for (int kind = 0; kind <= 2; kind++) {
            CHECK.due("lock(" + kind + ") behind a CRASH", x.lock(kind), -3);
        }
        CHECK.due("lock(3) behind a CRASH", x.lock(3), 0);
        CHECK.doors("behind a CRASH", x, "00000");
        x.field(1, 0, 0, 1);
        x.start(1, Remotes.e(1, Remotes.question(1)));
        CHECK.due("lock(2) behind a start", x.lock(2), 1);
        CHECK.due("lock(0) behind a start", x.lock(0), 4);
        CHECK.due("lock(1) behind a start", x.lock(1), 5);
    }

    private static String one(int door, char it, char others) {
        return "?????".substring(0, door).replace('?', others) + it + "?????".substring(door + 1).replace('?', others);
    }

    private static void open(DoorKeys x, int door) {
        x.field(1, PLACES[door][0], PLACES[door][1], 1);
    }

    /** "1 all are DEAD, if none is OPEN": one of five is enough, whichever it is. */
    private static void oneOpenOfFive() {
        for (int door = 0; door < 5; door++) {
            DoorKeys x = fresh();
            open(x, door);
            CHECK.due("1, one OPEN", x.lock(1), 0);
            CHECK.doors("1, one OPEN", x, one(door, '0', '1'));
            CHECK.due("0, one OPEN", x.lock(0), 1);
            CHECK.due("1, none OPEN", x.lock(1), 5);
            open(x, door);
            CHECK.due("1, one OPEN among DEAD", x.lock(1), 0);
            CHECK.doors("1, one OPEN among DEAD", x, one(door, '0', '2'));
            CHECK.due("0, one OPEN among DEAD", x.lock(0), 1);
            CHECK.doors("0, one OPEN among DEAD", x, one(door, '1', '2'));
            CHECK.due("1, one LOCKED among DEAD", x.lock(1), 1);
        }
    }

    /** "3 all are OPEN, if none is DEAD": one of five is enough, whichever it is. */
    private static void oneDeadOfFive() {
        for (int dead = 0; dead < 5; dead++) {
            DoorKeys x = fresh();
            x.lock(1);
            for (int door = 0; door < 5; door++) {
                if (door != dead) {
                    open(x, door);
                }
            }
            CHECK.due("3, one DEAD among OPEN", x.lock(3), 0);
            CHECK.doors("3, one DEAD among OPEN", x, one(dead, '2', '0'));
            CHECK.due("0", x.lock(0), 4);
            CHECK.due("3, one DEAD among LOCKED", x.lock(3), 0);
            CHECK.doors("3, one DEAD among LOCKED", x, one(dead, '2', '1'));
            open(x, dead);
            CHECK.due("3, none DEAD any more", x.lock(3), 4);
            CHECK.doors("3, none DEAD any more", x, "00000");
        }
    }

    /** "2 only the boot, if it is OPEN, is LOCKED". */
    private static void onlyTheBoot() {
        for (int door = 0; door < 5; door++) {
            DoorKeys x = fresh();
            open(x, door);
            CHECK.due("2, OPEN is " + door, x.lock(2), door == 4 ? 1 : 0);
            CHECK.doors("2, OPEN is " + door, x, door == 4 ? "11111" : one(door, '0', '1'));
        }
    }

    /** "how many became another": each number from 0 to 5. */
    private static void howManyBecameAnother() {
        for (int open = 0; open <= 5; open++) {
            DoorKeys x = fresh();
            DoorKeys y = fresh();
            DoorKeys z = fresh();
            z.lock(1);
            for (int door = 0; door < open; door++) {
                open(x, door);
                open(y, door);
                open(z, door);
            }
            CHECK.due("0, OPEN are " + open, x.lock(0), open);
            CHECK.due("3, OPEN are " + open, y.lock(3), 5 - open);
            CHECK.due("0, OPEN among DEAD are " + open, z.lock(0), open);
            CHECK.due("1, LOCKED are " + open, z.lock(1), open);
        }
    }

    /** "-3 behind a CRASH (0 to 2)": not before one, not behind the start; what is refused changes nothing. */
    private static void refusedBehindACrashOnly() {
        for (int kind = 0; kind <= 2; kind++) {
            DoorKeys x = fresh();
            x.field(1, 0, 0, 1);
            CHECK.due("before a CRASH", x.lock(kind), kind == 1 ? 5 : 0);
            x.crash();
            CHECK.due("behind a CRASH", x.lock(kind), -3);
            CHECK.doors("behind a CRASH", x, "00000");
            CHECK.due("a wrong answer", x.start(1, -1), 0);
            CHECK.due("still behind it", x.lock(kind), -3);
            CHECK.due("a start", x.start(1, Remotes.e(1, Remotes.question(2))), 1);
            CHECK.doors("refusals locked none", x, "00000");
            CHECK.due("behind a start", x.lock(kind), kind == 0 ? 5 : kind == 1 ? 0 : 1);
        }
    }
}
