/** Promise 11: a sensor makes the alarm sound when nothing has been OPEN for 30 or more. */
public final class Promise11AlarmTest {
    private static final Check CHECK = new Check("Promise11AlarmTest");

    public static void main(String[] args) {
        fromTheBeginning();
        sinceLocked();
        sinceTheBootWasLocked();
        sinceARemoteLocked();
        lockingAgainOrDeadeningKeepsTheTime();
        oneOpenAmongMany();
        refusals();
        farTimes();
        everySensor();
        timesAtTheEnds();
        refusedInOrder();
        openBetweenTwoTimes();
        shutBeforeAnyTime();
        theLastOneShutBegins();
        eachWayToShut();
        eachWayToOpen();
        CHECK.end();
    }

    private static DoorKeys fresh() {
        DoorKeys x = new DoorKeys(16);
        x.key(1, 0);
        return x;
    }

    private static void fromTheBeginning() {
        DoorKeys x = fresh();
        CHECK.due("0", x.alarm(0, 0), 0);
        CHECK.due("29", x.alarm(7, 29), 0);
        CHECK.due("30", x.alarm(3, 30), 1);
        CHECK.due("30 again", x.alarm(7, 30), 1);
        CHECK.due("31", x.alarm(0, 31), 1);
        CHECK.due("30 at once", fresh().alarm(0, 30), 1);
    }

    private static void sinceLocked() {
        DoorKeys x = fresh();
        x.alarm(0, 100);
        x.lock(3);
        CHECK.due("OPEN", x.alarm(0, 200), 0);
        x.lock(0);
        CHECK.due("at once", x.alarm(0, 200), 0);
        CHECK.due("29", x.alarm(0, 229), 0);
        CHECK.due("30", x.alarm(0, 230), 1);
        x.crash();
        CHECK.due("CRASH", x.alarm(0, 900), 0);
    }

    private static void sinceTheBootWasLocked() {
        DoorKeys x = fresh();
        x.field(1, -2200, 1400, 1);
        CHECK.due("the boot is OPEN", x.alarm(0, 50), 0);
        CHECK.due("lock(2)", x.lock(2), 1);
        CHECK.due("29", x.alarm(0, 79), 0);
        CHECK.due("30", x.alarm(0, 80), 1);
        x.lock(3);
        x.lock(2);
        CHECK.due("doors are OPEN", x.alarm(0, 200), 0);
        x.lock(0);
        CHECK.due("29", x.alarm(0, 229), 0);
        CHECK.due("30", x.alarm(0, 230), 1);
    }

    private static void sinceARemoteLocked() {
        DoorKeys x = fresh();
        Remotes.press(x, 1, 1, 0, 1);
        CHECK.due("OPEN", x.alarm(0, 60), 0);
        Remotes.press(x, 1, 1, 1, 2);
        CHECK.due("29", x.alarm(0, 89), 0);
        CHECK.due("30", x.alarm(0, 90), 1);
        Remotes.press(x, 1, 1, 2, 3);
        CHECK.due("the boot is OPEN", x.alarm(0, 300), 0);
    }

    private static void lockingAgainOrDeadeningKeepsTheTime() {
        DoorKeys x = fresh();
        x.alarm(0, 20);
        x.lock(0);
        x.lock(2);
        Remotes.press(x, 1, 1, 1, 1);
        CHECK.due("since 0", x.alarm(0, 30), 1);
        x.lock(1);
        CHECK.due("DEAD since then", x.alarm(0, 31), 1);
        Remotes.press(x, 1, 1, 3, 2);
        CHECK.due("DEAD again", x.alarm(0, 32), 1);
        x.lock(0);
        CHECK.due("nothing to lock", x.alarm(0, 33), 1);
    }

    private static void oneOpenAmongMany() {
        long[][] places = {{1000, 900}, {1000, -900}, {-500, 900}, {-500, -900}, {-2200, 0}};
        for (long[] place : places) {
            DoorKeys x = fresh();
            x.lock(1);
            x.field(1, place[0], place[1], 1);
            CHECK.due("one OPEN, the others DEAD", x.alarm(0, 100), 0);
            x.lock(0);
            CHECK.due("29", x.alarm(0, 129), 0);
            CHECK.due("30", x.alarm(0, 130), 1);
        }
    }

    private static void refusals() {
        DoorKeys x = fresh();
        for (int sensor : new int[] {-1, 8, 9, 256, Integer.MAX_VALUE, Integer.MIN_VALUE}) {
            CHECK.due("sensor " + sensor, x.alarm(sensor, 1000), -1);
            CHECK.due("sensor " + sensor + ", no time", x.alarm(sensor, -1), -1);
        }
        CHECK.due("below 0", x.alarm(0, -1), -2);
        CHECK.due("below 0", x.alarm(0, Long.MIN_VALUE), -2);
        CHECK.due("refusals told no time", x.alarm(0, 10), 0);
        CHECK.due("less", x.alarm(0, 9), -2);
        CHECK.due("below 0", x.alarm(0, -5), -2);
        CHECK.due("the same", x.alarm(0, 10), 0);
        CHECK.due("a refused sensor", x.alarm(8, 500), -1);
        x.lock(3);
        x.lock(0);
        CHECK.due("39", x.alarm(0, 39), 0);
        CHECK.due("40", x.alarm(0, 40), 1);
    }

    private static void farTimes() {
        DoorKeys x = fresh();
        CHECK.due("just before the end", x.alarm(0, Long.MAX_VALUE - 30), 1);
        x.lock(3);
        x.lock(0);
        CHECK.due("29", x.alarm(0, Long.MAX_VALUE - 1), 0);
        CHECK.due("30", x.alarm(0, Long.MAX_VALUE), 1);
    }

    /** "A sensor (0 .. 7)": all sound alike, -1 and 8 are none. */
    private static void everySensor() {
        for (int sensor = -1; sensor <= 8; sensor++) {
            boolean none = sensor < 0 || sensor > 7;
            DoorKeys x = fresh();
            CHECK.due("sensor " + sensor + " at 29", x.alarm(sensor, 29), none ? -1 : 0);
            CHECK.due("sensor " + sensor + " at 30", x.alarm(sensor, 30), none ? -1 : 1);
            x.lock(3);
            CHECK.due("sensor " + sensor + " at 90, OPEN", x.alarm(sensor, 90), none ? -1 : 0);
        }
    }

    /** "-2 the time is less than the one before, or below 0". */
    private static void timesAtTheEnds() {
        CHECK.due("-1 at first", fresh().alarm(0, -1), -2);
        CHECK.due("0 at first", fresh().alarm(0, 0), 0);
        CHECK.due("the lowest", fresh().alarm(0, Long.MIN_VALUE), -2);
        CHECK.due("the highest at first", fresh().alarm(0, Long.MAX_VALUE), 1);
        DoorKeys x = fresh();
        CHECK.due("0", x.alarm(0, 0), 0);
        CHECK.due("-1 behind 0", x.alarm(0, -1), -2);
        CHECK.due("0 behind 0", x.alarm(0, 0), 0);
        CHECK.due("30", x.alarm(0, 30), 1);
        CHECK.due("29 behind 30", x.alarm(0, 29), -2);
        CHECK.due("30 behind 30", x.alarm(0, 30), 1);
        CHECK.due("2^32 + 29", x.alarm(0, (1L << 32) + 29), 1);
        CHECK.due("2^32 + 28", x.alarm(0, (1L << 32) + 28), -2);
        x.alarm(0, Long.MAX_VALUE);
        CHECK.due("less than the highest", x.alarm(0, Long.MAX_VALUE - 1), -2);
        CHECK.due("the highest again", x.alarm(0, Long.MAX_VALUE), 1);
        CHECK.due("0 behind it", x.alarm(0, 0), -2);
    }

    private static void refusedInOrder() {
        DoorKeys x = fresh();
        x.alarm(0, 20);
        CHECK.due("no sensor, less", x.alarm(8, 19), -1);
        CHECK.due("no sensor, below 0", x.alarm(-1, -1), -1);
        CHECK.due("no sensor, more", x.alarm(8, 1000), -1);
        CHECK.due("less", x.alarm(7, 19), -2);
        CHECK.due("none of these was told", x.alarm(7, 20), 0);
        CHECK.due("since 0", x.alarm(7, 30), 1);
    }

    /** "nothing has been OPEN for 30": OPEN and shut between two times begins anew. */
    private static void openBetweenTwoTimes() {
        DoorKeys x = fresh();
        x.alarm(0, 1000);
        x.field(1, 1000, 900, 1);
        x.lock(0);
        CHECK.due("at 1000", x.alarm(0, 1000), 0);
        CHECK.due("at 1029", x.alarm(0, 1029), 0);
        x.field(1, 1000, 900, 1);
        x.lock(0);
        CHECK.due("at 1030, since 1029", x.alarm(0, 1030), 0);
        CHECK.due("at 1058", x.alarm(0, 1058), 0);
        CHECK.due("at 1059", x.alarm(0, 1059), 1);
    }

    /** "that which was told last then (0 at first)". */
    private static void shutBeforeAnyTime() {
        DoorKeys x = fresh();
        x.lock(3);
        x.lock(0);
        CHECK.due("since 0: 29", x.alarm(0, 29), 0);
        CHECK.due("since 0: 30", x.alarm(0, 30), 1);
        DoorKeys y = fresh();
        y.lock(3);
        CHECK.due("a time that is refused", y.alarm(0, -1), -2);
        CHECK.due("a sensor that is refused", y.alarm(8, 500), -1);
        y.lock(0);
        CHECK.due("since 0: 30 at once", y.alarm(0, 30), 1);
    }

    private static void theLastOneShutBegins() {
        DoorKeys x = fresh();
        x.lock(3);
        x.alarm(0, 10);
        x.lock(2);
        x.alarm(0, 20);
        CHECK.due("four are OPEN", x.alarm(0, 50), 0);
        x.lock(0);
        x.lock(1);
        CHECK.due("since 50: 79", x.alarm(0, 79), 0);
        x.lock(0);
        CHECK.due("since 50: 80", x.alarm(0, 80), 1);
        x.field(1, -2200, 0, 1);
        x.field(1, 1000, 900, 1);
        x.alarm(0, 100);
        x.lock(2);
        CHECK.due("door 0 is OPEN", x.alarm(0, 200), 0);
        x.lock(0);
        CHECK.due("since 200: 229", x.alarm(0, 229), 0);
        CHECK.due("since 200: 230", x.alarm(0, 230), 1);
    }

    private static void eachWayToShut() {
        for (int way = 0; way <= 2; way++) {
            DoorKeys x = fresh();
            x.alarm(0, 5);
            x.field(1, -2200, 0, 1);
            x.alarm(0, 40);
            if (way == 0) {
                CHECK.due("a remote's 1", Remotes.press(x, 1, 1, 1, 1), 1);
            } else {
                CHECK.due("lock", x.lock(way == 1 ? 0 : 2), 1);
            }
            CHECK.due("way " + way + ": 69", x.alarm(0, 69), 0);
            CHECK.due("way " + way + ": 70", x.alarm(0, 70), 1);
        }
    }

    private static void eachWayToOpen() {
        for (int way = 0; way <= 4; way++) {
            DoorKeys x = fresh();
            CHECK.due("on", x.alarm(0, 30), 1);
            switch (way) {
                case 0 -> x.crash();
                case 1 -> x.lock(3);
                case 2 -> x.field(1, -500, 900, 1);
                default -> Remotes.press(x, 1, 1, way == 3 ? 0 : 2, 1);
            }
            CHECK.due("way " + way, x.alarm(0, 30), 0);
            CHECK.due("way " + way + ", long after", x.alarm(0, 3000), 0);
        }
        DoorKeys y = fresh();
        y.field(1, 0, 0, 1);
        y.field(1, 1000, 900, 2001);
        y.lock(1);
        Remotes.press(y, 1, 1, 2, 1);
        CHECK.due("INSIDE, a RELAY and a DEAD boot open none", y.alarm(0, 30), 1);
    }
}
