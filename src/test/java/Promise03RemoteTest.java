/** Promise 3: octets of frames, and all that 'Terms' says of a REMOTE'S FRAME and its COMMANDS. */
public final class Promise03RemoteTest {
    private static final long S1 = 0xFEDCBA9876543210L;
    private static final long S2 = 5;
    private static final Check CHECK = new Check("Promise03RemoteTest");

    public static void main(String[] args) {
        knownCodes();
        lengths();
        keepsOctetsOfUnendedFrame();
        wrongFrames();
        wrongCodes();
        everyCounterIsRead();
        spans();
        secondInARow();
        awaitedNoMore();
        awaitedStays();
        awaitedIsAKeysOwn();
        awaitedOutlivesErasing();
        awaitedAroundTheEnd();
        commands();
        commandsBehindACrash();
        batteryOnlyWhenTaken();
        CHECK.end();
    }

    private static DoorKeys two(int span, int counter) {
        DoorKeys x = new DoorKeys(span);
        x.key(S1, counter);
        x.key(S2, counter);
        return x;
    }

    private static int press(DoorKeys x, int counter) {
        return Remotes.press(x, 1, S1, 1, counter);
    }

    /** Codes that a test under ../shared/tests holds too, so that helper and class can't err alike. */
    private static void knownCodes() {
        CHECK.due("sign", Remotes.sign(S1), 0xFEDC ^ 0xBA98 ^ 0x7654 ^ 0x3210);
        CHECK.due("code 65531", Remotes.code(S1, 65531), 0x5CCBE81BL);
        CHECK.due("code 16", Remotes.code(S1, 16), 0x52A56A33L);
        DoorKeys x = two(16, 0);
        byte[] octets = {1, 0, 0x52, (byte) 0xA5, 0x6A, 0x33, 0, (byte) 0xAF};
        CHECK.due("a known frame", Remotes.send(x, octets), 1);
        CHECK.due("its counter", x.counter(1), 16);
    }

    private static void lengths() {
        byte[] frame = Remotes.frame(1, 0, Remotes.code(S1, 1), 0);
        for (int length = 1; length <= 40; length++) {
            DoorKeys x = two(16, 0);
            byte[] octets = new byte[length];
            System.arraycopy(frame, 0, octets, 0, Math.min(length, 8));
            CHECK.due("a frame of " + length, Remotes.send(x, octets), length == 8 ? 1 : 0);
            CHECK.due("counter", x.counter(1), length == 8 ? 1 : 0);
            CHECK.due("the next frame", press(x, 2), 1);
        }
    }

    private static void keepsOctetsOfUnendedFrame() {
        DoorKeys x = two(16, 0);
        byte[] frame = Remotes.frame(1, 0, Remotes.code(S1, 1), 0);
        for (int i = 0; i < 7; i++) {
            CHECK.due("octet " + i, x.remote(frame[i], false), 0);
            x.key(1000 + i, 5);
            x.lock(0);
            x.field(1, 0, 0, 5);
        }
        CHECK.due("the last octet", x.remote(frame[7], true), 1);
        CHECK.doors("behind it", x, "00000");
        DoorKeys y = two(16, 0);
        for (byte b : frame) {
            CHECK.due("eight, none the last", y.remote(b, false), 0);
        }
        CHECK.due("a ninth", y.remote((byte) 0, true), 0);
        CHECK.due("not taken", y.counter(1), 0);
    }

    private static void wrongFrames() {
        DoorKeys x = two(16, 0);
        x.key(77, 0);
        byte[] good = Remotes.frame(1, 0, Remotes.code(S1, 1), 0);
        for (int i = 0; i < 8; i++) {
            for (int bit = 0; bit < 8; bit++) {
                byte[] bad = good.clone();
                bad[i] ^= 1 << bit;
                CHECK.due("a wrong sum", Remotes.send(two(16, 0), bad), 0);
            }
        }
        for (int command = 4; command <= 255; command++) {
            CHECK.due("command " + command, Remotes.press(two(16, 0), 1, S1, command, 1), 0);
        }
        for (int key : new int[] {0, 4, 8, 9, 127, 128, 129, 255}) {
            CHECK.due("key " + key, Remotes.press(x, key, S1, 0, 1), 0);
        }
        CHECK.due("a key that is not LEARNED", Remotes.press(x, 3, 77, 0, 1), 0);
        CHECK.due("another key's code", Remotes.press(x, 2, S1, 0, 1), 0);
        CHECK.doors("behind refusals", x, "11111");
        CHECK.due("counter 1", x.counter(1), 0);
        CHECK.due("the same frame, right", Remotes.send(x, good), 1);
        CHECK.due("erased", x.erase(1), 1);
        CHECK.due("a frame of an erased key", press(x, 2), 0);
        CHECK.due("its counter stays", x.counter(1), 1);
    }

    private static void wrongCodes() {
        for (int bit = 0; bit < 16; bit++) {
            DoorKeys x = two(16, 0);
            long otherSign = Remotes.e(S1, 65536 * (Remotes.sign(S1) ^ (1L << bit)) + 1);
            CHECK.due("a sign wrong in bit " + bit, Remotes.send(x, Remotes.frame(1, 0, otherSign, 0)), 0);
            CHECK.due("its counter", x.counter(1), 0);
        }
        // S2, whose sign is not 0
        DoorKeys x = two(16, 0);
        CHECK.due("a plain code", Remotes.send(x, Remotes.frame(2, 0, 65536 * Remotes.sign(S2) + 1, 0)), 0);
        CHECK.due("E of the counter alone", Remotes.send(x, Remotes.frame(2, 0, Remotes.e(S2, 1), 0)), 0);
        CHECK.due("the right one", Remotes.press(x, 2, S2, 0, 1), 1);
    }

    private static void everyCounterIsRead() {
        long[] secrets = {S1, S2, 0, -1, Long.MIN_VALUE, Long.MAX_VALUE, 0x8000800080008000L, 0x7FFF00010203FFFFL};
        for (long secret : secrets) {
            for (int counter = 0; counter < 65536; counter += 1031) {
                DoorKeys x = new DoorKeys(1);
                x.key(secret, (counter + 65535) % 65536);
                CHECK.due("counter " + counter, Remotes.press(x, 1, secret, 0, counter), 1);
                CHECK.due("counter " + counter + " kept", x.counter(1), counter);
            }
        }
    }

    private static void spans() {
        for (int from : new int[] {0, 1, 100, 32767, 32768, 65535}) {
            int[] d = {0, 1, 2, 15, 16, 17, 18, 1000, 32766, 32767, 32768, 32769, 32770, 65534, 65535};
            for (int step : d) {
                DoorKeys x = two(16, from);
                int want = step == 0 || step > 32768 ? 0 : step <= 16 ? 1 : 2;
                CHECK.due("from " + from + ", d = " + step, press(x, from + step), want);
                CHECK.due("counter", x.counter(1), want == 1 ? (from + step) % 65536 : from);
                CHECK.due("the other key's", x.counter(2), from);
            }
        }
    }

    private static void secondInARow() {
        DoorKeys x = two(16, 100);
        CHECK.due("far off", press(x, 1000), 2);
        CHECK.due("counter stays", x.counter(1), 100);
        CHECK.due("the next one", press(x, 1001), 1);
        CHECK.due("counter", x.counter(1), 1001);
        DoorKeys y = two(16, 100);
        CHECK.due("far off", press(y, 1000), 2);
        CHECK.due("the same again", press(y, 1000), 2);
        CHECK.due("not the next", press(y, 1002), 2);
        CHECK.due("the one before", press(y, 1001), 2);
        CHECK.due("the next one then", press(y, 1002), 1);
        DoorKeys z = two(16, 100);
        CHECK.due("the first", press(z, 1000), 2);
        CHECK.due("another", press(z, 2000), 2);
        CHECK.due("the first one's second", press(z, 1001), 2);
        CHECK.due("the other's second", press(z, 2001), 2);
        CHECK.due("counter", z.counter(1), 100);
    }

    private static void awaitedNoMore() {
        DoorKeys x = two(16, 100);
        CHECK.due("far off", press(x, 1000), 2);
        CHECK.due("taken between", press(x, 101), 1);
        CHECK.due("awaited no more", press(x, 1001), 2);
        DoorKeys y = two(16, 100);
        CHECK.due("far off", press(y, 1000), 2);
        CHECK.due("d = 0", press(y, 100), 0);
        CHECK.due("awaited no more", press(y, 1001), 2);
        DoorKeys z = two(16, 100);
        CHECK.due("far off", press(z, 1000), 2);
        CHECK.due("d = 65535", press(z, 99), 0);
        CHECK.due("awaited no more", press(z, 1001), 2);
        DoorKeys w = two(16, 100);
        CHECK.due("far off", press(w, 1000), 2);
        CHECK.due("d = 32769", press(w, 32869), 0);
        CHECK.due("awaited no more", press(w, 1001), 2);
        DoorKeys v = two(16, 100);
        CHECK.due("far off", press(v, 1000), 2);
        CHECK.due("its second", press(v, 1001), 1);
        CHECK.due("the second again", press(v, 1001), 0);
        CHECK.due("from there on", press(v, 1002), 1);
    }

    private static void awaitedStays() {
        DoorKeys x = two(16, 100);
        CHECK.due("far off", press(x, 1000), 2);
        byte[] wrongSum = Remotes.frame(1, 0, Remotes.code(S1, 100), 0);
        wrongSum[7] ^= 1;
        CHECK.due("a wrong sum", Remotes.send(x, wrongSum), 0);
        CHECK.due("a wrong command", Remotes.press(x, 1, S1, 4, 100), 0);
        CHECK.due("a wrong code", Remotes.send(x, Remotes.frame(1, 0, 12345, 0)), 0);
        CHECK.due("a wrong length", Remotes.send(x, new byte[3]), 0);
        CHECK.due("the next one", press(x, 1001), 1);
    }

    private static void awaitedIsAKeysOwn() {
        DoorKeys x = two(16, 100);
        CHECK.due("key 1", press(x, 1000), 2);
        CHECK.due("key 2", Remotes.press(x, 2, S2, 1, 1001), 2);
        CHECK.due("key 2, d = 0", Remotes.press(x, 2, S2, 1, 100), 0);
        CHECK.due("key 2, taken", Remotes.press(x, 2, S2, 1, 101), 1);
        CHECK.due("key 1's second", press(x, 1001), 1);
    }

    private static void awaitedOutlivesErasing() {
        DoorKeys x = two(16, 100);
        x.key(9, 0);
        x.field(1, 0, 0, 1);
        x.field(2, 0, 0, 1);
        x.learn(3, 1, 2);
        x.field(3, 0, 0, 1);
        CHECK.due("far off", press(x, 1000), 2);
        CHECK.due("erase", x.erase(1), 1);
        CHECK.due("erased: refused", press(x, 100), 0);
        CHECK.due("learned again", x.learn(1, 2, 3), 1);
        CHECK.due("the second", press(x, 1001), 1);
    }

    private static void awaitedAroundTheEnd() {
        DoorKeys x = two(16, 65000);
        CHECK.due("the highest", press(x, 65535), 2);
        CHECK.due("0 comes next", press(x, 0), 1);
        CHECK.due("counter", x.counter(1), 0);
        DoorKeys y = two(16, 0);
        CHECK.due("0 is not awaited at first", press(y, 17), 2);
        DoorKeys z = two(16, 0);
        CHECK.due("d = 32768", press(z, 32768), 2);
        CHECK.due("its second is too far", press(z, 32769), 0);
        DoorKeys w = two(32767, 0);
        CHECK.due("d = 32767", press(w, 32767), 1);
        DoorKeys v = two(16, 0);
        CHECK.due("d = 32767", press(v, 32767), 2);
        CHECK.due("d = 32768, awaited", press(v, 32768), 1);
        CHECK.due("counter", v.counter(1), 32768);
        DoorKeys u = two(16, 65000);
        CHECK.due("0 is not awaited by a new key", press(u, 0), 2);
    }

    private static void commands() {
        DoorKeys x = two(16, 0);
        CHECK.due("2", Remotes.press(x, 1, S1, 2, 1), 1);
        CHECK.doors("boot alone", x, "11110");
        Remotes.press(x, 1, S1, 3, 2);
        CHECK.doors("not DEAD while one is OPEN", x, "11110");
        Remotes.press(x, 1, S1, 1, 3);
        CHECK.doors("all LOCKED", x, "11111");
        Remotes.press(x, 1, S1, 3, 4);
        CHECK.doors("all DEAD", x, "22222");
        Remotes.press(x, 1, S1, 2, 5);
        CHECK.doors("a DEAD boot stays so", x, "22222");
        Remotes.press(x, 1, S1, 1, 6);
        CHECK.doors("1 leaves the DEAD", x, "22222");
        x.field(1, 1000, 900, 1);
        CHECK.doors("door 0 by its field", x, "02222");
        Remotes.press(x, 1, S1, 3, 7);
        CHECK.doors("one is OPEN", x, "02222");
        Remotes.press(x, 1, S1, 1, 8);
        CHECK.doors("one is LOCKED", x, "12222");
        Remotes.press(x, 1, S1, 3, 9);
        CHECK.doors("LOCKED and DEAD are all DEAD", x, "22222");
        Remotes.press(x, 1, S1, 0, 10);
        CHECK.doors("0 opens the DEAD too", x, "00000");
        Remotes.press(x, 1, S1, 0, 10);
        CHECK.due("counter", x.counter(1), 10);
        x.lock(0);
        Remotes.press(x, 1, S1, 0, 10);
        CHECK.doors("one refused does nothing", x, "11111");
        Remotes.press(x, 1, S1, 0, 500);
        CHECK.doors("one of two does nothing", x, "11111");
        Remotes.press(x, 1, S1, 0, 501);
        CHECK.doors("the second does its own", x, "00000");
    }

    private static void commandsBehindACrash() {
        DoorKeys x = two(16, 0);
        x.crash();
        CHECK.due("1 is taken", Remotes.press(x, 1, S1, 1, 1), 1);
        CHECK.due("its counter", x.counter(1), 1);
        CHECK.doors("1 does nothing", x, "00000");
        CHECK.due("3 is taken", Remotes.press(x, 1, S1, 3, 2, 1), 1);
        CHECK.due("its battery", x.battery(1), 1);
        CHECK.doors("3 does nothing", x, "00000");
        CHECK.due("2 is taken", Remotes.press(x, 1, S1, 2, 3), 1);
        CHECK.due("0 is taken", Remotes.press(x, 1, S1, 0, 4), 1);
        x.field(1, 0, 0, 1);
        CHECK.due("start", x.start(1, Remotes.e(S1, Remotes.question(1))), 1);
        Remotes.press(x, 1, S1, 1, 5);
        CHECK.doors("1 locks again", x, "11111");
        Remotes.press(x, 1, S1, 3, 6);
        CHECK.doors("3 deadens again", x, "22222");
    }

    private static void batteryOnlyWhenTaken() {
        DoorKeys x = two(16, 0);
        Remotes.press(x, 1, S1, 0, 0, 1);
        CHECK.due("refused", x.battery(1), 0);
        Remotes.press(x, 1, S1, 0, 100, 1);
        CHECK.due("one of two", x.battery(1), 0);
        Remotes.press(x, 1, S1, 0, 101, 0xFF);
        CHECK.due("taken", x.battery(1), 1);
        CHECK.due("the other key", x.battery(2), 0);
    }
}
