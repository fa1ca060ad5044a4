/** Promise 8: where a key is found, and which door that opens. */
public final class Promise08FieldTest {
    private static final Check CHECK = new Check("Promise08FieldTest");
    private static final String[] OPENED = {"02222", "20222", "22022", "22202", "22220"};

    public static void main(String[] args) {
        nearDoors();
        asNear();
        insideEdges();
        relays();
        refusals();
        notLearned();
        leavesOthers();
        behindACrash();
        placesAtTheEnds();
        timesAtTheEnds();
        refusedInOrder();
        farOffEndsBoth();
        relaysOfAnyKey();
        everyPlaceRoundADoor();
        everyPlaceRoundTheInside();
        opensWhateverTheDoorIs();
        CHECK.end();
    }

    private static DoorKeys fresh() {
        DoorKeys x = new DoorKeys(16);
        x.key(1, 0);
        x.key(2, 0);
        x.key(3, 0);
        return x;
    }

    /** A field on all DEAD, and on all LOCKED: its answer, and the doors behind it (given for all DEAD). */
    private static void opens(long x, long y, long micros, int answer, String doors) {
        DoorKeys d = fresh();
        d.lock(1);
        String call = "field(1, " + x + ", " + y + ", " + micros + ")";
        CHECK.due(call, d.field(1, x, y, micros), answer);
        CHECK.doors(call, d, doors);
        DoorKeys locked = fresh();
        locked.field(1, x, y, micros);
        CHECK.doors(call + " from LOCKED", locked, doors.replace('2', '1'));
    }

    private static void nearDoors() {
        opens(1000, 900, 1, 1, OPENED[0]);
        opens(1000, -900, 1, 1, OPENED[1]);
        opens(-500, 900, 1, 1, OPENED[2]);
        opens(-500, -900, 1, 1, OPENED[3]);
        opens(-2200, 0, 1, 1, OPENED[4]);
        opens(1000, 2400, 1, 1, OPENED[0]);
        opens(1000, 2401, 1, 0, "22222");
        opens(1000, -2400, 1, 1, OPENED[1]);
        opens(1000, -2401, 1, 0, "22222");
        opens(2500, 900, 1, 1, OPENED[0]);
        opens(2501, 900, 1, 0, "22222");
        opens(-500, 2400, 1, 1, OPENED[2]);
        opens(-500, 2401, 1, 0, "22222");
        opens(-500, -2400, 1, 1, OPENED[3]);
        opens(-3700, 0, 1, 1, OPENED[4]);
        opens(-3701, 0, 1, 0, "22222");
        // 900, 1200, 1500: a distance on neither axis
        opens(1900, 2100, 1, 1, OPENED[0]);
        opens(1901, 2100, 1, 0, "22222");
        opens(1900, 2101, 1, 0, "22222");
        opens(-3100, 1200, 1, 1, OPENED[4]);
        // The least that a whole place can be beyond 1500
        opens(1001, 2400, 1, 0, "22222");
        opens(-3700, -1, 1, 0, "22222");
        opens(1000000, 1000000, 1, 0, "22222");
        opens(-1000000, 1000000, 1, 0, "22222");
        opens(1000000, -1000000, 1, 0, "22222");
    }

    private static void asNear() {
        opens(250, 900, 1, 1, OPENED[0]);
        opens(250, -900, 1, 1, OPENED[1]);
        opens(251, 900, 1, 1, OPENED[0]);
        opens(249, 900, 1, 1, OPENED[2]);
        opens(2200, 0, 1, 1, OPENED[0]);
        opens(2200, -1, 1, 1, OPENED[1]);
        // As far from door 2 as from the boot, and a step to either side
        opens(-1539, 807, 1, 1, OPENED[2]);
        opens(-1538, 807, 1, 1, OPENED[2]);
        opens(-1540, 807, 1, 1, OPENED[4]);
        opens(-1539, -807, 1, 1, OPENED[3]);
        opens(-1540, -807, 1, 1, OPENED[4]);
    }

    private static void insideEdges() {
        opens(0, 0, 1, 1, "22222");
        opens(2000, 800, 1, 1, "22222");
        opens(2000, -800, 1, 1, "22222");
        opens(-2000, 800, 1, 1, "22222");
        opens(-2000, -800, 2000, 1, "22222");
        opens(2001, 800, 1, 1, OPENED[0]);
        opens(2001, -800, 1, 1, OPENED[1]);
        opens(-2001, 0, 1, 1, OPENED[4]);
        opens(1000, 801, 1, 1, OPENED[0]);
        opens(1000, -801, 1, 1, OPENED[1]);
        opens(-2200, 0, 2000, 1, OPENED[4]);
        DoorKeys x = fresh();
        x.field(1, 1000, 801, 1);
        CHECK.due("NEAR is not INSIDE", x.start(1, Remotes.e(1, Remotes.question(1))), 0);
        x.field(1, 1000, 800, 1);
        CHECK.due("INSIDE", x.start(1, Remotes.e(1, Remotes.question(2))), 1);
        x.field(1, 1000, 801, 1);
        CHECK.due("INSIDE no more", x.start(1, Remotes.e(1, Remotes.question(3))), 0);
    }

    private static void relays() {
        opens(1000, 900, 2000, 1, OPENED[0]);
        opens(1000, 900, 2001, 0, "22222");
        opens(0, 0, 2001, 0, "22222");
        opens(0, 0, Long.MAX_VALUE, 0, "22222");
        DoorKeys x = fresh();
        x.field(1, 0, 0, 2000);
        CHECK.due("in time", x.state(5), 0);
        x.field(1, 0, 0, 2001);
        CHECK.due("a RELAY", x.state(5), 1);
        CHECK.due("ends INSIDE", x.start(1, Remotes.e(1, Remotes.question(1))), 0);
        x.field(3, 1000000, 1000000, 2001);
        CHECK.due("of a key not LEARNED", x.state(5), 2);
        x.field(4, 0, 0, 2001);
        CHECK.due("of no key", x.state(5), 2);
        x.field(1, 1000001, 0, 2001);
        CHECK.due("of no place", x.state(5), 2);
    }

    private static void refusals() {
        DoorKeys x = fresh();
        x.field(1, 0, 0, 1);
        long[] far = {-1000001, 1000001, 1L << 32, Long.MIN_VALUE, Long.MAX_VALUE};
        for (long place : far) {
            CHECK.due("x " + place, x.field(1, place, 0, 1), -2);
            CHECK.due("y " + place, x.field(1, 0, place, 1), -2);
            CHECK.due("no key, x " + place, x.field(4, place, 0, 1), -1);
        }
        for (long micros : new long[] {0, -1, Long.MIN_VALUE}) {
            CHECK.due("micros " + micros, x.field(1, 1000, 900, micros), -2);
        }
        for (int key : new int[] {0, -1, 4, 8, 9, 257, Integer.MAX_VALUE, Integer.MIN_VALUE}) {
            CHECK.due("field(" + key + ")", x.field(key, 1000, 900, 1), -1);
        }
        CHECK.doors("refusals", x, "11111");
        CHECK.due("still INSIDE", x.start(1, Remotes.e(1, Remotes.question(1))), 1);
        CHECK.due("edge", x.field(1, -1000000, 1000000, 1), 0);
        CHECK.due("edge", x.field(1, 1000000, -1000000, 1), 0);
    }

    private static void notLearned() {
        DoorKeys x = fresh();
        CHECK.due("NEAR a door", x.field(3, 1000, 900, 1), 0);
        CHECK.due("inside", x.field(3, 0, 0, 1), 0);
        CHECK.doors("not LEARNED", x, "11111");
    }

    private static void leavesOthers() {
        DoorKeys x = fresh();
        x.field(1, 1000, 900, 1);
        x.field(2, -500, -900, 1);
        CHECK.doors("each opens one", x, "01101");
        CHECK.due("both are NEAR", x.learn(3, 1, 2), 1);
        x.field(2, 9000, 0, 1);
        CHECK.doors("going shuts none", x, "01101");
    }

    private static void behindACrash() {
        DoorKeys x = fresh();
        x.crash();
        CHECK.due("field behind a CRASH", x.field(1, 1000, 900, 1), 1);
        CHECK.due("still behind it", x.lock(0), -3);
    }

    /** "x or y is below -1000000 or above 1000000": 0, not -2, up to there. */
    private static void placesAtTheEnds() {
        long[] ends = {-1000001, -1000000, -999999, 999999, 1000000, 1000001};
        int[] answers = {-2, 0, 0, 0, 0, -2};
        for (int i = 0; i < ends.length; i++) {
            CHECK.due("x " + ends[i], fresh().field(1, ends[i], 0, 1), answers[i]);
            CHECK.due("y " + ends[i], fresh().field(1, 0, ends[i], 1), answers[i]);
            for (int j = 0; j < ends.length; j++) {
                CHECK.due("x " + ends[i] + ", y " + ends[j], fresh().field(1, ends[i], ends[j], 1),
                        Math.min(answers[i], answers[j]));
            }
        }
        // Places whose distances, wrapped round in an int or a long, would be near
        for (long far : new long[] {1L << 32, (1L << 32) + 1000, -(1L << 32), 1L << 33, 65536 * 65536L + 900}) {
            CHECK.due("x " + far, fresh().field(1, far, 900, 1), -2);
            CHECK.due("y " + far, fresh().field(1, 1000, far, 1), -2);
        }
        CHECK.due("x 65536 + 1000", fresh().field(1, 66536, 900, 1), 0);
        CHECK.due("y 65536 + 900", fresh().field(1, 1000, 66436, 1), 0);
        CHECK.due("both 65536 off", fresh().field(1, 66536, 66436, 1), 0);
    }

    /** "1 .. 2000", "micros below 1", "above 2000". */
    private static void timesAtTheEnds() {
        long[] micros = {Long.MIN_VALUE, -1, 0, 1, 2, 1999, 2000, 2001, 2002, 1L << 32, (1L << 32) + 1, Long.MAX_VALUE};
        int[] answers = {-2, -2, -2, 1, 1, 1, 1, 0, 0, 0, 0, 0};
        int[] relays = {0, 0, 0, 0, 0, 0, 0, 1, 1, 1, 1, 1};
        for (int i = 0; i < micros.length; i++) {
            DoorKeys x = fresh();
            CHECK.due("NEAR, micros " + micros[i], x.field(1, 1000, 900, micros[i]), answers[i]);
            CHECK.doors("NEAR, micros " + micros[i], x, answers[i] == 1 ? "01111" : "11111");
            CHECK.due("its RELAYS", x.state(5), relays[i]);
            DoorKeys y = fresh();
            CHECK.due("INSIDE, micros " + micros[i], y.field(1, 0, 0, micros[i]), answers[i]);
            CHECK.doors("INSIDE, micros " + micros[i], y, "11111");
            CHECK.due("its RELAYS", y.state(5), relays[i]);
            CHECK.due("it starts", y.start(1, Remotes.e(1, Remotes.question(1))), answers[i] == 1 ? 1 : 0);
        }
    }

    /** "the first that fits": no key, then no place or no time; a RELAY is none of those. */
    private static void refusedInOrder() {
        DoorKeys x = fresh();
        CHECK.due("no key, no place, no time", x.field(4, 1000001, 1000001, 0), -1);
        CHECK.due("no key, no time", x.field(0, 0, 0, 0), -1);
        CHECK.due("not LEARNED, no place", x.field(3, 1000001, 0, 1), -2);
        CHECK.due("not LEARNED, no time", x.field(3, 0, 0, 0), -2);
        CHECK.due("a RELAY, no place", x.field(1, 0, -1000001, 2001), -2);
        CHECK.due("a RELAY, no key", x.field(4, 0, 0, 2001), -1);
        CHECK.due("no RELAYS", x.state(5), 0);
        CHECK.doors("nothing changed", x, "11111");
    }

    /** "what its field told last": one too far off ends NEAR and INSIDE. */
    private static void farOffEndsBoth() {
        long[][] off = {{1000, 2401, 1}, {-3701, 0, 2000}, {1000000, 1000000, 1}, {0, 0, 2001}, {1000, 900, 2001}};
        for (long[] f : off) {
            DoorKeys x = fresh();
            x.field(1, 0, 0, 1);
            x.field(2, 1000, 900, 1);
            CHECK.due("INSIDE goes off", x.field(1, f[0], f[1], f[2]), 0);
            CHECK.due("it can't start", x.start(1, Remotes.e(1, Remotes.question(1))), 0);
            CHECK.due("it can't teach", x.learn(3, 1, 2), 0);
            x.field(1, 0, 0, 1);
            CHECK.due("NEAR goes off", x.field(2, f[0], f[1], f[2]), 0);
            CHECK.due("it can't teach", x.learn(3, 1, 2), 0);
            x.field(2, 1000, 900, 1);
            CHECK.due("back again", x.learn(3, 1, 2), 1);
        }
    }

    /** "A time above 2000 (of any key)": LEARNED, never LEARNED, erased; at any place. */
    private static void relaysOfAnyKey() {
        DoorKeys x = fresh();
        x.erase(2);
        int relays = 0;
        for (int key = 1; key <= 3; key++) {
            for (long place : new long[] {-1000000, 0, 1000, 1000000}) {
                CHECK.due("a RELAY of key " + key, x.field(key, place, 900, 2001), 0);
                relays++;
                CHECK.due("RELAYS", x.state(5), relays);
                x.field(key, 1000000, 900, 2000);
                CHECK.due("in time", x.state(5), relays);
            }
        }
        CHECK.doors("a RELAY opens none", x, "11111");
    }

    /** "at most 1500 away": all places round each door's circle, a step inside and a step outside. */
    private static void everyPlaceRoundADoor() {
        long[][] places = {{1000, 900}, {1000, -900}, {-500, 900}, {-500, -900}, {-2200, 0}};
        for (long[] place : places) {
            for (long dx = -1500; dx <= 1500; dx += 60) {
                long dy = (long) Math.sqrt(1500 * 1500 - dx * dx);
                for (long step : new long[] {-dy - 1, -dy, dy, dy + 1}) {
                    atPlace(place[0] + dx, place[1] + step, places);
                }
            }
        }
    }

    private static void atPlace(long x, long y, long[][] places) {
        int nearest = -1;
        long least = 1500L * 1500;
        for (int door = places.length - 1; door >= 0; door--) {
            long square = (x - places[door][0]) * (x - places[door][0]) + (y - places[door][1]) * (y - places[door][1]);
            if (square <= least) {
                least = square;
                nearest = door;
            }
        }
        boolean inside = Math.abs(x) <= 2000 && Math.abs(y) <= 800;
        DoorKeys car = fresh();
        CHECK.due("field(1, " + x + ", " + y + ", 1)", car.field(1, x, y, 1), nearest >= 0 ? 1 : 0);
        for (int door = 0; door < 5; door++) {
            CHECK.due("door " + door + " by " + x + ", " + y, car.state(door), door == nearest && !inside ? 0 : 1);
        }
    }

    /** "|x| <= 2000 and |y| <= 800": all places along the four sides, and a step beyond each. */
    private static void everyPlaceRoundTheInside() {
        for (long x = -2000; x <= 2000; x += 50) {
            for (long y : new long[] {-801, -800, 800, 801}) {
                startsFrom(x, y, Math.abs(y) == 800);
            }
        }
        for (long y = -800; y <= 800; y += 50) {
            for (long x : new long[] {-2001, -2000, 2000, 2001}) {
                startsFrom(x, y, Math.abs(x) == 2000);
            }
        }
    }

    private static void startsFrom(long x, long y, boolean inside) {
        DoorKeys car = fresh();
        CHECK.due("field(1, " + x + ", " + y + ", 1)", car.field(1, x, y, 1), 1);
        CHECK.due("start from " + x + ", " + y, car.start(1, Remotes.e(1, Remotes.question(1))), inside ? 1 : 0);
        CHECK.due("how many it left LOCKED", car.lock(3), inside ? 5 : 4);
    }

    /** "that door is OPEN", whether it was OPEN, LOCKED or DEAD. */
    private static void opensWhateverTheDoorIs() {
        DoorKeys x = fresh();
        x.lock(1);
        CHECK.due("DEAD", x.field(1, 1000, 900, 1), 1);
        CHECK.doors("DEAD", x, "02222");
        CHECK.due("OPEN", x.field(1, 1000, 900, 1), 1);
        CHECK.doors("OPEN", x, "02222");
        x.lock(0);
        CHECK.due("LOCKED", x.field(1, 1000, 900, 1), 1);
        CHECK.doors("LOCKED", x, "02222");
    }
}
