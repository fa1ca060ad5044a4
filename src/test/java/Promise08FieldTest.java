/** Promise 8: where a key is found, and which door that opens. */
public final class Promise08FieldTest {
    private static final Check CHECK = new Check("Promise08FieldTest");
    private static final String[] OPENED = {"02222", "20222", "22022", "22202", "22220"};

    public static void main(String[] args) {
        nearDoors();
        asNear();
        insideEdges();
        relays();
        refusals();
        notLearned();
        leavesOthers();
        behindACrash();
        CHECK.end();
    }

    private static DoorKeys fresh() {
        DoorKeys x = new DoorKeys(16);
        x.key(1, 0);
        x.key(2, 0);
        x.key(3, 0);
        return x;
    }

    /** A field on all DEAD, and on all LOCKED: its answer, and the doors behind it (given for all DEAD). */
    private static void opens(long x, long y, long micros, int answer, String doors) {
        DoorKeys d = fresh();
        d.lock(1);
        String call = "field(1, " + x + ", " + y + ", " + micros + ")";
        CHECK.due(call, d.field(1, x, y, micros), answer);
        CHECK.doors(call, d, doors);
        DoorKeys locked = fresh();
        locked.field(1, x, y, micros);
        CHECK.doors(call + " from LOCKED", locked, doors.replace('2', '1'));
    }

    private static void nearDoors() {
        opens(1000, 900, 1, 1, OPENED[0]);
        opens(1000, -900, 1, 1, OPENED[1]);
        opens(-500, 900, 1, 1, OPENED[2]);
        opens(-500, -900, 1, 1, OPENED[3]);
        opens(-2200, 0, 1, 1, OPENED[4]);
        opens(1000, 2400, 1, 1, OPENED[0]);
        opens(1000, 2401, 1, 0, "22222");
        opens(1000, -2400, 1, 1, OPENED[1]);
        opens(1000, -2401, 1, 0, "22222");
        opens(2500, 900, 1, 1, OPENED[0]);
        opens(2501, 900, 1, 0, "22222");
        opens(-500, 2400, 1, 1, OPENED[2]);
        opens(-500, 2401, 1, 0, "22222");
        opens(-500, -2400, 1, 1, OPENED[3]);
        opens(-3700, 0, 1, 1, OPENED[4]);
        opens(-3701, 0, 1, 0, "22222");
        // 900, 1200, 1500: a distance on neither axis
        opens(1900, 2100, 1, 1, OPENED[0]);
        opens(1901, 2100, 1, 0, "22222");
        opens(1900, 2101, 1, 0, "22222");
        opens(-3100, 1200, 1, 1, OPENED[4]);
        // The least that a whole place can be beyond 1500
        opens(1001, 2400, 1, 0, "22222");
        opens(-3700, -1, 1, 0, "22222");
        opens(1000000, 1000000, 1, 0, "22222");
        opens(-1000000, 1000000, 1, 0, "22222");
        opens(1000000, -1000000, 1, 0, "22222");
    }

    private static void asNear() {
        opens(250, 900, 1, 1, OPENED[0]);
        opens(250, -900, 1, 1, OPENED[1]);
        opens(251, 900, 1, 1, OPENED[0]);
        opens(249, 900, 1, 1, OPENED[2]);
        opens(2200, 0, 1, 1, OPENED[0]);
        opens(2200, -1, 1, 1, OPENED[1]);
        // As far from door 2 as from the boot, and a step to either side
        opens(-1539, 807, 1, 1, OPENED[2]);
        opens(-1538, 807, 1, 1, OPENED[2]);
        opens(-1540, 807, 1, 1, OPENED[4]);
        opens(-1539, -807, 1, 1, OPENED[3]);
        opens(-1540, -807, 1, 1, OPENED[4]);
    }

    private static void insideEdges() {
        opens(0, 0, 1, 1, "22222");
        opens(2000, 800, 1, 1, "22222");
        opens(2000, -800, 1, 1, "22222");
        opens(-2000, 800, 1, 1, "22222");
        opens(-2000, -800, 2000, 1, "22222");
        opens(2001, 800, 1, 1, OPENED[0]);
        opens(2001, -800, 1, 1, OPENED[1]);
        opens(-2001, 0, 1, 1, OPENED[4]);
        opens(1000, 801, 1, 1, OPENED[0]);
        opens(1000, -801, 1, 1, OPENED[1]);
        opens(-2200, 0, 2000, 1, OPENED[4]);
        DoorKeys x = fresh();
        x.field(1, 1000, 801, 1);
        CHECK.due("NEAR is not INSIDE", x.start(1, Remotes.e(1, Remotes.question(1))), 0);
        x.field(1, 1000, 800, 1);
        CHECK.due("INSIDE", x.start(1, Remotes.e(1, Remotes.question(2))), 1);
        x.field(1, 1000, 801, 1);
        CHECK.due("INSIDE no more", x.start(1, Remotes.e(1, Remotes.question(3))), 0);
    }

    private static void relays() {
        opens(1000, 900, 2000, 1, OPENED[0]);
        opens(1000, 900, 2001, 0, "22222");
        opens(0, 0, 2001, 0, "22222");
        opens(0, 0, Long.MAX_VALUE, 0, "22222");
        DoorKeys x = fresh();
        x.field(1, 0, 0, 2000);
        CHECK.due("in time", x.state(5), 0);
        x.field(1, 0, 0, 2001);
        CHECK.due("a RELAY", x.state(5), 1);
        CHECK.due("ends INSIDE", x.start(1, Remotes.e(1, Remotes.question(1))), 0);
        x.field(3, 1000000, 1000000, 2001);
        CHECK.due("of a key not LEARNED", x.state(5), 2);
        x.field(4, 0, 0, 2001);
        CHECK.due("of no key", x.state(5), 2);
        x.field(1, 1000001, 0, 2001);
        CHECK.due("of no place", x.state(5), 2);
    }

    private static void refusals() {
        DoorKeys x = fresh();
        x.field(1, 0, 0, 1);
        long[] far = {-1000001, 1000001, 1L << 32, Long.MIN_VALUE, Long.MAX_VALUE};
        for (long place : far) {
            CHECK.due("x " + place, x.field(1, place, 0, 1), -2);
            CHECK.due("y " + place, x.field(1, 0, place, 1), -2);
            CHECK.due("no key, x " + place, x.field(4, place, 0, 1), -1);
        }
        for (long micros : new long[] {0, -1, Long.MIN_VALUE}) {
            CHECK.due("micros " + micros, x.field(1, 1000, 900, micros), -2);
        }
        for (int key : new int[] {0, -1, 4, 8, 9, 257, Integer.MAX_VALUE, Integer.MIN_VALUE}) {
            CHECK.due("field(" + key + ")", x.field(key, 1000, 900, 1), -1);
        }
        CHECK.doors("refusals", x, "11111");
        CHECK.due("still INSIDE", x.start(1, Remotes.e(1, Remotes.question(1))), 1);
        CHECK.due("edge", x.field(1, -1000000, 1000000, 1), 0);
        CHECK.due("edge", x.field(1, 1000000, -1000000, 1), 0);
    }

    private static void notLearned() {
        DoorKeys x = fresh();
        CHECK.due("NEAR a door", x.field(3, 1000, 900, 1), 0);
        CHECK.due("inside", x.field(3, 0, 0, 1), 0);
        CHECK.doors("not LEARNED", x, "11111");
    }

    private static void leavesOthers() {
        DoorKeys x = fresh();
        x.field(1, 1000, 900, 1);
        x.field(2, -500, -900, 1);
        CHECK.doors("each opens one", x, "01101");
        CHECK.due("both are NEAR", x.learn(3, 1, 2), 1);
        x.field(2, 9000, 0, 1);
        CHECK.doors("going shuts none", x, "01101");
    }

    private static void behindACrash() {
        DoorKeys x = fresh();
        x.crash();
        CHECK.due("field behind a CRASH", x.field(1, 1000, 900, 1), 1);
        CHECK.due("still behind it", x.lock(0), -3);
    }
}
