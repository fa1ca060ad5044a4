/** Promise 10: a CRASH opens all: how many became another. */
public final class Promise10CrashTest {
    private static final long[][] PLACES = {{1000, 900}, {1000, -900}, {-500, 900}, {-500, -900}, {-2200, 0}};
    private static final Check CHECK = new Check("Promise10CrashTest");

    public static void main(String[] args) {
        fromLockedAndOpen();
        fromDead();
        fromAllKinds();
        countsThoseNotOpen();
        againAndAgain();
        leavesTheKeys();
        CHECK.end();
    }

    private static DoorKeys fresh() {
        DoorKeys x = new DoorKeys(16);
        x.key(1, 0);
        return x;
    }

    private static void fromLockedAndOpen() {
        DoorKeys x = fresh();
        CHECK.due("from LOCKED", x.crash(), 5);
        CHECK.doors("from LOCKED", x, "00000");
        CHECK.due("from OPEN", x.crash(), 0);
        CHECK.doors("from OPEN", x, "00000");
        CHECK.due("without keys", new DoorKeys(0).crash(), 5);
    }

    private static void fromDead() {
        DoorKeys x = fresh();
        x.lock(1);
        CHECK.due("from DEAD", x.crash(), 5);
        CHECK.doors("from DEAD", x, "00000");
    }

    private static void fromAllKinds() {
        DoorKeys x = fresh();
        x.lock(1);
        x.field(1, 1000, -900, 1);
        x.lock(0);
        x.field(1, -500, 900, 1);
        CHECK.doors("one of each", x, "21022");
        CHECK.due("from all kinds", x.crash(), 4);
        CHECK.doors("from all kinds", x, "00000");
        CHECK.due("not locked behind it", x.lock(0), -3);
        CHECK.due("nor the boot", x.lock(2), -3);
        CHECK.due("nor deadened", x.lock(1), -3);
    }

    /** "how many became another": each number from 5 down to 0. */
    private static void countsThoseNotOpen() {
        for (int open = 0; open <= 5; open++) {
            for (int dead = 0; dead <= 1; dead++) {
                DoorKeys x = fresh();
                x.lock(dead);
                for (int door = 0; door < open; door++) {
                    x.field(1, PLACES[door][0], PLACES[door][1], 1);
                }
                CHECK.due("OPEN are " + open, x.crash(), 5 - open);
                CHECK.doors("all", x, "00000");
            }
        }
    }

    /** One behind a CRASH, one behind a start, and one that changes no door holds too. */
    private static void againAndAgain() {
        DoorKeys x = fresh();
        x.field(1, 0, 0, 1);
        x.lock(3);
        CHECK.due("nothing becomes another", x.crash(), 0);
        CHECK.due("and it is a CRASH", x.lock(0), -3);
        CHECK.due("another", x.crash(), 0);
        CHECK.due("one start ends both", x.start(1, Remotes.e(1, Remotes.question(1))), 1);
        CHECK.due("no CRASH", x.lock(0), 5);
        CHECK.due("a third", x.crash(), 5);
        CHECK.due("and it is a CRASH", x.lock(0), -3);
        CHECK.due("another start", x.start(1, Remotes.e(1, Remotes.question(2))), 1);
        CHECK.due("no CRASH", x.lock(2), 1);
    }

    private static void leavesTheKeys() {
        DoorKeys x = fresh();
        x.key(2, 9);
        x.key(3, 0);
        x.field(1, 0, 0, 1);
        x.field(2, 1000, 900, 1);
        Remotes.press(x, 2, 2, 0, 100, 1);
        x.crash();
        CHECK.due("INSIDE and NEAR stay", x.learn(3, 1, 2), 1);
        CHECK.due("what is awaited stays", Remotes.press(x, 2, 2, 0, 101, 1), 1);
        CHECK.due("RELAYS", x.state(5), 0);
        CHECK.due("questions", x.state(6), 0);
    }
}
