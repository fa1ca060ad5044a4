/** "An object is used for at most 512 calls": what is counted or kept holds to the 512th. */
public final class LongestUseTest {
    private static final int MOST_CALLS = 512;
    private static final long SECRET = 0x123456789ABCDEFL;
    private static final Check CHECK = new Check("LongestUseTest");

    public static void main(String[] args) {
        relays();
        questions();
        oneLongFrame();
        framesOfOneOctet();
        framesTaken();
        times();
        crashes();
        CHECK.end();
    }

    private static DoorKeys oneKey() {
        DoorKeys x = new DoorKeys(16);
        x.key(SECRET, 65500);
        return x;
    }

    private static void relays() {
        DoorKeys x = oneKey();
        for (int call = 2; call < MOST_CALLS; call++) {
            CHECK.due("a RELAY", x.field(1, 0, 0, 2001), 0);
        }
        CHECK.due("RELAYS", x.state(5), MOST_CALLS - 2);
    }

    private static void questions() {
        DoorKeys x = oneKey();
        x.field(1, 0, 0, 1);
        for (int call = 3; call < MOST_CALLS; call++) {
            CHECK.due("a wrong answer", x.start(1, -1), 0);
        }
        CHECK.due("the last", x.start(1, Remotes.e(SECRET, Remotes.question(MOST_CALLS - 2))), 1);
    }

    private static void oneLongFrame() {
        DoorKeys x = oneKey();
        byte[] frame = Remotes.frame(1, 0, Remotes.code(SECRET, 65501), 0);
        for (int call = 2; call <= MOST_CALLS - 2; call++) {
            CHECK.due("an octet", x.remote(frame[(call - 2) % 8], call == MOST_CALLS - 2), 0);
        }
        CHECK.octet(x, 15, frame[7]);
        CHECK.noOctet(x, 16);
    }

    private static void framesOfOneOctet() {
        DoorKeys x = oneKey();
        for (int call = 2; call < MOST_CALLS; call++) {
            CHECK.due("a frame", x.remote((byte) call, true), 0);
        }
        CHECK.octet(x, 0, (byte) (MOST_CALLS - 1));
    }

    /** 63 frames of 8 octets, the counter going round its end on the way. */
    private static void framesTaken() {
        DoorKeys x = oneKey();
        for (int frame = 1; frame <= 63; frame++) {
            CHECK.due("frame " + frame, Remotes.press(x, 1, SECRET, frame % 4, 65500 + frame), 1);
        }
        CHECK.due("counter", x.counter(1), (65500 + 63) % 65536);
    }

    private static void times() {
        DoorKeys x = oneKey();
        long step = Long.MAX_VALUE / MOST_CALLS;
        for (int call = 2; call <= MOST_CALLS; call++) {
            CHECK.due("a time", x.alarm(call % 8, call * step), 1);
        }
    }

    private static void crashes() {
        DoorKeys x = oneKey();
        CHECK.due("the first", x.crash(), 5);
        for (int call = 3; call < MOST_CALLS; call++) {
            CHECK.due("one more", x.crash(), 0);
        }
        CHECK.due("behind them", x.lock(0), -3);
    }
}
