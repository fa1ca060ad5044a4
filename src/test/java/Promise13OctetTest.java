/** Promise 13: an octet of the last frame that came to its end. */
public final class Promise13OctetTest {
    private static final Check CHECK = new Check("Promise13OctetTest");

    public static void main(String[] args) {
        before();
        lengths();
        anotherFrame();
        framesOfAllKinds();
        CHECK.end();
    }

    private static void nothingOutside(DoorKeys x, int length) {
        for (int i : new int[] {-1, length, length + 1, 15 + length, 16, 17, Integer.MAX_VALUE, Integer.MIN_VALUE}) {
            CHECK.noOctet(x, i);
        }
    }

    private static void before() {
        DoorKeys x = new DoorKeys(16);
        nothingOutside(x, 0);
        x.remote((byte) 5, false);
        nothingOutside(x, 0);
        x.remote((byte) 6, true);
        CHECK.octet(x, 0, 5);
        CHECK.octet(x, 1, 6);
        nothingOutside(x, 2);
    }

    private static void lengths() {
        DoorKeys x = new DoorKeys(16);
        for (int length = 1; length <= 18; length++) {
            for (int i = 0; i < length; i++) {
                CHECK.due("remote", x.remote((byte) (120 + length + i), i == length - 1), 0);
            }
            int kept = Math.min(length, 16);
            for (int i = 0; i < kept; i++) {
                CHECK.octet(x, i, (byte) (120 + length + i));
            }
            CHECK.noOctet(x, kept);
        }
    }

    private static void anotherFrame() {
        DoorKeys x = new DoorKeys(16);
        Remotes.send(x, new byte[] {1, 2, 3, 4, 5});
        Remotes.send(x, new byte[] {6, 7});
        CHECK.octet(x, 0, 6);
        CHECK.octet(x, 1, 7);
        nothingOutside(x, 2);
        x.remote((byte) 8, false);
        x.remote((byte) 9, false);
        x.remote((byte) 10, false);
        CHECK.octet(x, 0, 6);
        CHECK.octet(x, 1, 7);
        nothingOutside(x, 2);
        x.remote((byte) -128, true);
        CHECK.octet(x, 0, 8);
        CHECK.octet(x, 3, -128);
        nothingOutside(x, 4);
    }

    private static void framesOfAllKinds() {
        DoorKeys x = new DoorKeys(16);
        x.key(1, 0);
        int[] counters = {1, 1, 1000, 1001};
        for (int counter : counters) {
            byte[] frame = Remotes.frame(1, 0, Remotes.code(1, counter), 0);
            Remotes.send(x, frame);
            for (int i = 0; i < 8; i++) {
                CHECK.octet(x, i, frame[i]);
            }
            nothingOutside(x, 8);
        }
    }
}
