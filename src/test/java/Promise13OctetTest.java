/** Promise 13: an octet of the last frame that came to its end. */
public final class Promise13OctetTest {
    private static final Check CHECK = new Check("Promise13OctetTest");

    public static void main(String[] args) {
        before();
        lengths();
        anotherFrame();
        framesOfAllKinds();
        keepsTheFirstSixteen();
        everyOctet();
        longThenShort();
        throwingChangesNothing();
        CHECK.end();
    }

    private static void nothingOutside(DoorKeys x, int length) {
        for (int i : new int[] {-1, length, length + 1, 15 + length, 16, 17, Integer.MAX_VALUE, Integer.MIN_VALUE}) {
            CHECK.noOctet(x, i);
        }
    }

    private static void before() {
        DoorKeys x = new DoorKeys(16);
        nothingOutside(x, 0);
        x.remote((byte) 5, false);
        nothingOutside(x, 0);
        x.remote((byte) 6, true);
        CHECK.octet(x, 0, 5);
        CHECK.octet(x, 1, 6);
        nothingOutside(x, 2);
    }

    private static void lengths() {
        DoorKeys x = new DoorKeys(16);
        for (int length = 1; length <= 18; length++) {
            for (int i = 0; i < length; i++) {
                CHECK.due("remote", x.remote((byte) (120 + length + i), i == length - 1), 0);
            }
            int kept = Math.min(length, 16);
            for (int i = 0; i < kept; i++) {
                CHECK.octet(x, i, (byte) (120 + length + i));
            }
            CHECK.noOctet(x, kept);
        }
    }

    private static void anotherFrame() {
        DoorKeys x = new DoorKeys(16);
        Remotes.send(x, new byte[] {1, 2, 3, 4, 5});
        Remotes.send(x, new byte[] {6, 7});
        CHECK.octet(x, 0, 6);
        CHECK.octet(x, 1, 7);
        nothingOutside(x, 2);
        x.remote((byte) 8, false);
        x.remote((byte) 9, false);
        x.remote((byte) 10, false);
        CHECK.octet(x, 0, 6);
        CHECK.octet(x, 1, 7);
        nothingOutside(x, 2);
        x.remote((byte) -128, true);
        CHECK.octet(x, 0, 8);
        CHECK.octet(x, 3, -128);
        nothingOutside(x, 4);
    }

    private static void framesOfAllKinds() {
        DoorKeys x = new DoorKeys(16);
        x.key(1, 0);
        int[] counters = {1, 1, 1000, 1001};
        for (int counter : counters) {
            byte[] frame = Remotes.frame(1, 0, Remotes.code(1, counter), 0);
            Remotes.send(x, frame);
            for (int i = 0; i < 8; i++) {
                CHECK.octet(x, i, frame[i]);
            }
            nothingOutside(x, 8);
        }
    }

    /** "(it keeps the first 16)": 15, 16 and 17, and far more. */
    private static void keepsTheFirstSixteen() {
        for (int length : new int[] {1, 2, 8, 15, 16, 17, 31, 32, 33, 255, 256, 257, 272, 480}) {
            DoorKeys x = new DoorKeys(16);
            byte[] octets = new byte[length];
            for (int i = 0; i < length; i++) {
                octets[i] = (byte) (i * 7 + 1);
            }
            CHECK.due("octets " + length, Remotes.send(x, octets), 0);
            int kept = Math.min(length, 16);
            CHECK.octet(x, 0, 1);
            CHECK.octet(x, kept - 1, octets[kept - 1]);
            nothingOutside(x, kept);
        }
    }

    private static void everyOctet() {
        for (int value = -128; value <= 127; value++) {
            DoorKeys x = new DoorKeys(16);
            x.remote((byte) value, true);
            CHECK.octet(x, 0, value);
            CHECK.noOctet(x, 1);
        }
    }

    /** Nothing of a longer frame shows behind a shorter one, nor of one that has not come to its end. */
    private static void longThenShort() {
        DoorKeys x = new DoorKeys(16);
        Remotes.send(x, new byte[20]);
        Remotes.send(x, new byte[16]);
        Remotes.send(x, new byte[] {9});
        CHECK.octet(x, 0, 9);
        nothingOutside(x, 1);
        for (int i = 0; i < 20; i++) {
            x.remote((byte) (50 + i), false);
            CHECK.octet(x, 0, 9);
            CHECK.noOctet(x, 1);
        }
        x.remote((byte) 99, true);
        for (int i = 0; i < 16; i++) {
            CHECK.octet(x, i, 50 + i);
        }
        nothingOutside(x, 16);
    }

    private static void throwingChangesNothing() {
        DoorKeys x = new DoorKeys(16);
        x.key(1, 0);
        byte[] frame = Remotes.frame(1, 0, Remotes.code(1, 1), 0);
        for (int i = 0; i < 8; i++) {
            nothingOutside(x, 0);
            CHECK.due("octet " + i, x.remote(frame[i], i == 7), i == 7 ? 1 : 0);
        }
        nothingOutside(x, 8);
        CHECK.octet(x, 7, frame[7]);
    }
}
