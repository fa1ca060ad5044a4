/** Promise 11: a sensor makes the alarm sound when nothing has been OPEN for 30 or more. */
public final class Promise11AlarmTest {
    private static final Check CHECK = new Check("Promise11AlarmTest");

    public static void main(String[] args) {
        fromTheBeginning();
        sinceLocked();
        sinceTheBootWasLocked();
        sinceARemoteLocked();
        lockingAgainOrDeadeningKeepsTheTime();
        oneOpenAmongMany();
        refusals();
        farTimes();
        CHECK.end();
    }

    private static DoorKeys fresh() {
        DoorKeys x = new DoorKeys(16);
        x.key(1, 0);
        return x;
    }

    private static void fromTheBeginning() {
        DoorKeys x = fresh();
        CHECK.due("0", x.alarm(0, 0), 0);
        CHECK.due("29", x.alarm(7, 29), 0);
        CHECK.due("30", x.alarm(3, 30), 1);
        CHECK.due("30 again", x.alarm(7, 30), 1);
        CHECK.due("31", x.alarm(0, 31), 1);
        CHECK.due("30 at once", fresh().alarm(0, 30), 1);
    }

    private static void sinceLocked() {
        DoorKeys x = fresh();
        x.alarm(0, 100);
        x.lock(3);
        CHECK.due("OPEN", x.alarm(0, 200), 0);
        x.lock(0);
        CHECK.due("at once", x.alarm(0, 200), 0);
        CHECK.due("29", x.alarm(0, 229), 0);
        CHECK.due("30", x.alarm(0, 230), 1);
        x.crash();
        CHECK.due("CRASH", x.alarm(0, 900), 0);
    }

    private static void sinceTheBootWasLocked() {
        DoorKeys x = fresh();
        x.field(1, -2200, 1400, 1);
        CHECK.due("the boot is OPEN", x.alarm(0, 50), 0);
        CHECK.due("lock(2)", x.lock(2), 1);
        CHECK.due("29", x.alarm(0, 79), 0);
        CHECK.due("30", x.alarm(0, 80), 1);
        x.lock(3);
        x.lock(2);
        CHECK.due("doors are OPEN", x.alarm(0, 200), 0);
        x.lock(0);
        CHECK.due("29", x.alarm(0, 229), 0);
        CHECK.due("30", x.alarm(0, 230), 1);
    }

    private static void sinceARemoteLocked() {
        DoorKeys x = fresh();
        Remotes.press(x, 1, 1, 0, 1);
        CHECK.due("OPEN", x.alarm(0, 60), 0);
        Remotes.press(x, 1, 1, 1, 2);
        CHECK.due("29", x.alarm(0, 89), 0);
        CHECK.due("30", x.alarm(0, 90), 1);
        Remotes.press(x, 1, 1, 2, 3);
        CHECK.due("the boot is OPEN", x.alarm(0, 300), 0);
    }

    private static void lockingAgainOrDeadeningKeepsTheTime() {
        DoorKeys x = fresh();
        x.alarm(0, 20);
        x.lock(0);
        x.lock(2);
        Remotes.press(x, 1, 1, 1, 1);
        CHECK.due("since 0", x.alarm(0, 30), 1);
        x.lock(1);
        CHECK.due("DEAD since then", x.alarm(0, 31), 1);
        Remotes.press(x, 1, 1, 3, 2);
        CHECK.due("DEAD again", x.alarm(0, 32), 1);
        x.lock(0);
        CHECK.due("nothing to lock", x.alarm(0, 33), 1);
    }

    private static void oneOpenAmongMany() {
        long[][] places = {{1000, 900}, {1000, -900}, {-500, 900}, {-500, -900}, {-2200, 0}};
        for (long[] place : places) {
            DoorKeys x = fresh();
            x.lock(1);
            x.field(1, place[0], place[1], 1);
            CHECK.due("one OPEN, the others DEAD", x.alarm(0, 100), 0);
            x.lock(0);
            CHECK.due("29", x.alarm(0, 129), 0);
            CHECK.due("30", x.alarm(0, 130), 1);
        }
    }

    private static void refusals() {
        DoorKeys x = fresh();
        for (int sensor : new int[] {-1, 8, 9, 256, Integer.MAX_VALUE, Integer.MIN_VALUE}) {
            CHECK.due("sensor " + sensor, x.alarm(sensor, 1000), -1);
            CHECK.due("sensor " + sensor + ", no time", x.alarm(sensor, -1), -1);
        }
        CHECK.due("below 0", x.alarm(0, -1), -2);
        CHECK.due("below 0", x.alarm(0, Long.MIN_VALUE), -2);
        CHECK.due("refusals told no time", x.alarm(0, 10), 0);
        CHECK.due("less", x.alarm(0, 9), -2);
        CHECK.due("below 0", x.alarm(0, -5), -2);
        CHECK.due("the same", x.alarm(0, 10), 0);
        CHECK.due("a refused sensor", x.alarm(8, 500), -1);
        x.lock(3);
        x.lock(0);
        CHECK.due("39", x.alarm(0, 39), 0);
        CHECK.due("40", x.alarm(0, 40), 1);
    }

    private static void farTimes() {
        DoorKeys x = fresh();
        CHECK.due("just before the end", x.alarm(0, Long.MAX_VALUE - 30), 1);
        x.lock(3);
        x.lock(0);
        CHECK.due("29", x.alarm(0, Long.MAX_VALUE - 1), 0);
        CHECK.due("30", x.alarm(0, Long.MAX_VALUE), 1);
    }
}
