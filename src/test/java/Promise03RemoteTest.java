/** Promise 3: octets of frames, and all that 'Terms' says of a REMOTE'S FRAME and its COMMANDS. */
public final class Promise03RemoteTest {
    private static final long S1 = 0xFEDCBA9876543210L;
    private static final long S2 = 5;
    private static final Check CHECK = new Check("Promise03RemoteTest");

    public static void main(String[] args) {
        knownCodes();
        lengths();
        keepsOctetsOfUnendedFrame();
        wrongFrames();
        wrongCodes();
        everyCounterIsRead();
        spans();
        secondInARow();
        awaitedNoMore();
        awaitedStays();
        awaitedIsAKeysOwn();
        awaitedOutlivesErasing();
        awaitedAroundTheEnd();
        commands();
        commandsBehindACrash();
        batteryOnlyWhenTaken();
        longFrames();
        firstAndLastNumbersOfKeys();
        lastCommandInsideAndFirstOutside();
        signsAtTheEnds();
        countersOutsideOfACode();
        codesAtTheEnds();
        edgesOfSpans();
        secondsAtTheEdges();
        nothingIsAwaitedBehindAFarSecond();
        awaitedWithinTheSpan();
        secondsDoTheirOwn();
        oneOpenKeepsThreeFromDeadening();
        oneEndsWhereItsLastOctetIs();
        CHECK.end();
    }

    private static DoorKeys two(int span, int counter) {
        DoorKeys x = new DoorKeys(span);
        x.key(S1, counter);
        x.key(S2, counter);
        return x;
    }

    private static int press(DoorKeys x, int counter) {
        return Remotes.press(x, 1, S1, 1, counter);
    }

    /** Codes that a test under ../shared/tests holds too, so that helper and class can't err alike. */
    private static void knownCodes() {
        CHECK.due("sign", Remotes.sign(S1), 0xFEDC ^ 0xBA98 ^ 0x7654 ^ 0x3210);
        CHECK.due("code 65531", Remotes.code(S1, 65531), 0x5CCBE81BL);
        CHECK.due("code 16", Remotes.code(S1, 16), 0x52A56A33L);
        DoorKeys x = two(16, 0);
        byte[] octets = {1, 0, 0x52, (byte) 0xA5, 0x6A, 0x33, 0, (byte) 0xAF};
        CHECK.due("a known frame", Remotes.send(x, octets), 1);
        CHECK.due("its counter", x.counter(1), 16);
    }

    private static void lengths() {
        byte[] frame = Remotes.frame(1, 0, Remotes.code(S1, 1), 0);
        for (int length = 1; length <= 40; length++) {
            DoorKeys x = two(16, 0);
            byte[] octets = new byte[length];
            System.arraycopy(frame, 0, octets, 0, Math.min(length, 8));
            CHECK.due("a frame of " + length, Remotes.send(x, octets), length == 8 ? 1 : 0);
            CHECK.due("counter", x.counter(1), length == 8 ? 1 : 0);
            CHECK.due("the next frame", press(x, 2), 1);
        }
    }

    private static void keepsOctetsOfUnendedFrame() {
        DoorKeys x = two(16, 0);
        byte[] frame = Remotes.frame(1, 0, Remotes.code(S1, 1), 0);
        for (int i = 0; i < 7; i++) {
            CHECK.due("octet " + i, x.remote(frame[i], false), 0);
            x.key(1000 + i, 5);
            x.lock(0);
            x.field(1, 0, 0, 5);
        }
        CHECK.due("the last octet", x.remote(frame[7], true), 1);
        CHECK.doors("behind it", x, "00000");
        DoorKeys y = two(16, 0);
        for (byte b : frame) {
            CHECK.due("eight, none the last", y.remote(b, false), 0);
        }
        CHECK.due("a ninth", y.remote((byte) 0, true), 0);
        CHECK.due("not taken", y.counter(1), 0);
    }

    private static void wrongFrames() {
        DoorKeys x = two(16, 0);
        x.key(77, 0);
        byte[] good = Remotes.frame(1, 0, Remotes.code(S1, 1), 0);
        for (int i = 0; i < 8; i++) {
            for (int bit = 0; bit < 8; bit++) {
                byte[] bad = good.clone();
                bad[i] ^= 1 << bit;
                CHECK.due("a wrong sum", Remotes.send(two(16, 0), bad), 0);
            }
        }
        for (int command = 4; command <= 255; command++) {
            CHECK.due("command " + command, Remotes.press(two(16, 0), 1, S1, command, 1), 0);
        }
        for (int key : new int[] {0, 4, 8, 9, 127, 128, 129, 255}) {
            CHECK.due("key " + key, Remotes.press(x, key, S1, 0, 1), 0);
        }
        CHECK.due("a key that is not LEARNED", Remotes.press(x, 3, 77, 0, 1), 0);
        CHECK.due("another key's code", Remotes.press(x, 2, S1, 0, 1), 0);
        CHECK.doors("behind refusals", x, "11111");
        CHECK.due("counter 1", x.counter(1), 0);
        CHECK.due("the same frame, right", Remotes.send(x, good), 1);
        CHECK.due("erased", x.erase(1), 1);
        CHECK.due("a frame of an erased key", press(x, 2), 0);
        CHECK.due("its counter stays", x.counter(1), 1);
    }

    private static void wrongCodes() {
        for (int bit = 0; bit < 16; bit++) {
            DoorKeys x = two(16, 0);
            long otherSign = Remotes.e(S1, 65536 * (Remotes.sign(S1) ^ (1L << bit)) + 1);
            CHECK.due("a sign wrong in bit " + bit, Remotes.send(x, Remotes.frame(1, 0, otherSign, 0)), 0);
            CHECK.due("its counter", x.counter(1), 0);
        }
        // S2, whose sign is not 0
        DoorKeys x = two(16, 0);
        CHECK.due("a plain code", Remotes.send(x, Remotes.frame(2, 0, 65536 * Remotes.sign(S2) + 1, 0)), 0);
        CHECK.due("E of the counter alone", Remotes.send(x, Remotes.frame(2, 0, Remotes.e(S2, 1), 0)), 0);
        CHECK.due("the right one", Remotes.press(x, 2, S2, 0, 1), 1);
    }

    private static void everyCounterIsRead() {
        long[] secrets = {S1, S2, 0, -1, Long.MIN_VALUE, Long.MAX_VALUE, 0x8000800080008000L, 0x7FFF00010203FFFFL};
        for (long secret : secrets) {
            for (int counter = 0; counter < 65536; counter += 1031) {
                DoorKeys x = new DoorKeys(1);
                x.key(secret, (counter + 65535) % 65536);
                CHECK.due("counter " + counter, Remotes.press(x, 1, secret, 0, counter), 1);
                CHECK.due("counter " + counter + " kept", x.counter(1), counter);
            }
        }
    }

    private static void spans() {
        for (int from : new int[] {0, 1, 100, 32767, 32768, 65535}) {
            int[] d = {0, 1, 2, 15, 16, 17, 18, 1000, 32766, 32767, 32768, 32769, 32770, 65534, 65535};
            for (int step : d) {
                DoorKeys x = two(16, from);
                int want = step == 0 || step > 32768 ? 0 : step <= 16 ? 1 : 2;
                CHECK.due("from " + from + ", d = " + step, press(x, from + step), want);
                CHECK.due("counter", x.counter(1), want == 1 ? (from + step) % 65536 : from);
                CHECK.due("the other key's", x.counter(2), from);
            }
        }
    }

    private static void secondInARow() {
        DoorKeys x = two(16, 100);
        CHECK.due("far off", press(x, 1000), 2);
        CHECK.due("counter stays", x.counter(1), 100);
        CHECK.due("the next one", press(x, 1001), 1);
        CHECK.due("counter", x.counter(1), 1001);
        DoorKeys y = two(16, 100);
        CHECK.due("far off", press(y, 1000), 2);
        CHECK.due("the same again", press(y, 1000), 2);
        CHECK.due("not the next", press(y, 1002), 2);
        CHECK.due("the one before", press(y, 1001), 2);
        CHECK.due("the next one then", press(y, 1002), 1);
        DoorKeys z = two(16, 100);
        CHECK.due("the first", press(z, 1000), 2);
        CHECK.due("another", press(z, 2000), 2);
        CHECK.due("the first one's second", press(z, 1001), 2);
        CHECK.due("the other's second", press(z, 2001), 2);
        CHECK.due("counter", z.counter(1), 100);
    }

    private static void awaitedNoMore() {
        DoorKeys x = two(16, 100);
        CHECK.due("far off", press(x, 1000), 2);
        CHECK.due("taken between", press(x, 101), 1);
        CHECK.due("awaited no more", press(x, 1001), 2);
        DoorKeys y = two(16, 100);
        CHECK.due("far off", press(y, 1000), 2);
        CHECK.due("d = 0", press(y, 100), 0);
        CHECK.due("awaited no more", press(y, 1001), 2);
        DoorKeys z = two(16, 100);
        CHECK.due("far off", press(z, 1000), 2);
        CHECK.due("d = 65535", press(z, 99), 0);
        CHECK.due("awaited no more", press(z, 1001), 2);
        DoorKeys w = two(16, 100);
        CHECK.due("far off", press(w, 1000), 2);
        CHECK.due("d = 32769", press(w, 32869), 0);
        CHECK.due("awaited no more", press(w, 1001), 2);
        DoorKeys v = two(16, 100);
        CHECK.due("far off", press(v, 1000), 2);
        CHECK.due("its second", press(v, 1001), 1);
        CHECK.due("the second again", press(v, 1001), 0);
        CHECK.due("from there on", press(v, 1002), 1);
    }

    private static void awaitedStays() {
        DoorKeys x = two(16, 100);
        CHECK.due("far off", press(x, 1000), 2);
        byte[] wrongSum = Remotes.frame(1, 0, Remotes.code(S1, 100), 0);
        wrongSum[7] ^= 1;
        CHECK.due("a wrong sum", Remotes.send(x, wrongSum), 0);
        CHECK.due("a wrong command", Remotes.press(x, 1, S1, 4, 100), 0);
        CHECK.due("a wrong code", Remotes.send(x, Remotes.frame(1, 0, 12345, 0)), 0);
        CHECK.due("a wrong length", Remotes.send(x, new byte[3]), 0);
        CHECK.due("the next one", press(x, 1001), 1);
    }

    private static void awaitedIsAKeysOwn() {
        DoorKeys x = two(16, 100);
        CHECK.due("key 1", press(x, 1000), 2);
        CHECK.due("key 2", Remotes.press(x, 2, S2, 1, 1001), 2);
        CHECK.due("key 2, d = 0", Remotes.press(x, 2, S2, 1, 100), 0);
        CHECK.due("key 2, taken", Remotes.press(x, 2, S2, 1, 101), 1);
        CHECK.due("key 1's second", press(x, 1001), 1);
    }

    private static void awaitedOutlivesErasing() {
        DoorKeys x = two(16, 100);
        x.key(9, 0);
        x.field(1, 0, 0, 1);
        x.field(2, 0, 0, 1);
        x.learn(3, 1, 2);
        x.field(3, 0, 0, 1);
        CHECK.due("far off", press(x, 1000), 2);
        CHECK.due("erase", x.erase(1), 1);
        CHECK.due("erased: refused", press(x, 100), 0);
        CHECK.due("learned again", x.learn(1, 2, 3), 1);
        CHECK.due("the second", press(x, 1001), 1);
    }

    private static void awaitedAroundTheEnd() {
        DoorKeys x = two(16, 65000);
        CHECK.due("the highest", press(x, 65535), 2);
        CHECK.due("0 comes next", press(x, 0), 1);
        CHECK.due("counter", x.counter(1), 0);
        DoorKeys y = two(16, 0);
        CHECK.due("0 is not awaited at first", press(y, 17), 2);
        DoorKeys z = two(16, 0);
        CHECK.due("d = 32768", press(z, 32768), 2);
        CHECK.due("its second is too far", press(z, 32769), 0);
        DoorKeys w = two(32767, 0);
        CHECK.due("d = 32767", press(w, 32767), 1);
        DoorKeys v = two(16, 0);
        CHECK.due("d = 32767", press(v, 32767), 2);
        CHECK.due("d = 32768, awaited", press(v, 32768), 1);
        CHECK.due("counter", v.counter(1), 32768);
        DoorKeys u = two(16, 65000);
        CHECK.due("0 is not awaited by a new key", press(u, 0), 2);
    }

    private static void commands() {
        DoorKeys x = two(16, 0);
        CHECK.due("2", Remotes.press(x, 1, S1, 2, 1), 1);
        CHECK.doors("boot alone", x, "11110");
        Remotes.press(x, 1, S1, 3, 2);
        CHECK.doors("not DEAD while one is OPEN", x, "11110");
        Remotes.press(x, 1, S1, 1, 3);
        CHECK.doors("all LOCKED", x, "11111");
        Remotes.press(x, 1, S1, 3, 4);
        CHECK.doors("all DEAD", x, "22222");
        Remotes.press(x, 1, S1, 2, 5);
        CHECK.doors("a DEAD boot stays so", x, "22222");
        Remotes.press(x, 1, S1, 1, 6);
        CHECK.doors("1 leaves the DEAD", x, "22222");
        x.field(1, 1000, 900, 1);
        CHECK.doors("door 0 by its field", x, "02222");
        Remotes.press(x, 1, S1, 3, 7);
        CHECK.doors("one is OPEN", x, "02222");
        Remotes.press(x, 1, S1, 1, 8);
        CHECK.doors("one is LOCKED", x, "12222");
        Remotes.press(x, 1, S1, 3, 9);
        CHECK.doors("LOCKED and DEAD are all DEAD", x, "22222");
        Remotes.press(x, 1, S1, 0, 10);
        CHECK.doors("0 opens the DEAD too", x, "00000");
        Remotes.press(x, 1, S1, 0, 10);
        CHECK.due("counter", x.counter(1), 10);
        x.lock(0);
        Remotes.press(x, 1, S1, 0, 10);
        CHECK.doors("one refused does nothing", x, "11111");
        Remotes.press(x, 1, S1, 0, 500);
        CHECK.doors("one of two does nothing", x, "11111");
        Remotes.press(x, 1, S1, 0, 501);
        CHECK.doors("the second does its own", x, "00000");
    }

    private static void commandsBehindACrash() {
        DoorKeys x = two(16, 0);
        x.crash();
        CHECK.due("1 is taken", Remotes.press(x, 1, S1, 1, 1), 1);
        CHECK.due("its counter", x.counter(1), 1);
        CHECK.doors("1 does nothing", x, "00000");
        CHECK.due("3 is taken", Remotes.press(x, 1, S1, 3, 2, 1), 1);
        CHECK.due("its battery", x.battery(1), 1);
        CHECK.doors("3 does nothing", x, "00000");
        CHECK.due("2 is taken", Remotes.press(x, 1, S1, 2, 3), 1);
        CHECK.due("0 is taken", Remotes.press(x, 1, S1, 0, 4), 1);
        x.field(1, 0, 0, 1);
        CHECK.due("start", x.start(1, Remotes.e(S1, Remotes.question(1))), 1);
        Remotes.press(x, 1, S1, 1, 5);
        CHECK.doors("1 locks again", x, "11111");
        Remotes.press(x, 1, S1, 3, 6);
        CHECK.doors("3 deadens again", x, "22222");
    }

    private static void batteryOnlyWhenTaken() {
        DoorKeys x = two(16, 0);
        Remotes.press(x, 1, S1, 0, 0, 1);
        CHECK.due("refused", x.battery(1), 0);
        Remotes.press(x, 1, S1, 0, 100, 1);
        CHECK.due("one of two", x.battery(1), 0);
        Remotes.press(x, 1, S1, 0, 101, 0xFF);
        CHECK.due("taken", x.battery(1), 1);
        CHECK.due("the other key", x.battery(2), 0);
    }

    /** "it has not 8 octets", counted beyond the 16 that are kept and beyond what an octet counts. */
    private static void longFrames() {
        byte[] frame = Remotes.frame(1, 0, Remotes.code(S1, 1), 0);
        for (int length : new int[] {7, 8, 9, 15, 16, 17, 23, 24, 25, 255, 256, 263, 264, 265, 500}) {
            DoorKeys x = two(16, 0);
            byte[] again = new byte[length];
            for (int i = 0; i < length; i++) {
                again[i] = frame[i % 8];
            }
            CHECK.due("octets " + length, Remotes.send(x, again), length == 8 ? 1 : 0);
            CHECK.doors("octets " + length, x, length == 8 ? "00000" : "11111");
        }
    }

    /** "there is no such key": numbers 1 and 8 are keys, 0 and 9 none. */
    private static void firstAndLastNumbersOfKeys() {
        DoorKeys x = two(16, 0);
        for (int key = 3; key <= 8; key++) {
            CHECK.due("before there is key " + key, Remotes.press(x, key, 100 + key, 0, 1), 0);
            x.key(100 + key, 0);
            CHECK.due("not LEARNED, key " + key, Remotes.press(x, key, 100 + key, 0, 1), 0);
            x.field(1, 0, 0, 1);
            x.field(2, 0, 0, 1);
            x.learn(key, 1, 2);
            CHECK.due("key " + key, Remotes.press(x, key, 100 + key, 1, 1), 1);
        }
        CHECK.due("key 1", press(x, 1), 1);
        for (int none : new int[] {0, 9, 16, 128, 129, 136, 248, 255}) {
            CHECK.due("key " + none, Remotes.press(x, none, 108, 0, 2), 0);
            CHECK.due("key " + none + ", secret 0", Remotes.press(x, none, 0, 0, 1), 0);
        }
        CHECK.doors("none of no key did a thing", x, "11111");
    }

    /** "the command is above 3". */
    private static void lastCommandInsideAndFirstOutside() {
        for (int command : new int[] {0, 1, 2, 3, 4, 5, 127, 128, 131, 252, 255}) {
            DoorKeys x = two(16, 0);
            int want = command <= 3 ? 1 : 0;
            CHECK.due("command " + command, Remotes.press(x, 1, S1, command, 5, 1), want);
            CHECK.due("its counter", x.counter(1), 5 * want);
            CHECK.due("its battery", x.battery(1), want);
            CHECK.doors("command " + command, x,
                    new String[] {"00000", "11111", "11110", "22222", "11111"}[Math.min(command, 4)]);
        }
    }

    private static void signsAtTheEnds() {
        long[] secrets = {0, 0xFFFFL, 0xFFFF0000L, 0xFFFF00000000L, 0xFFFF000000000000L, 1, 0x8000L, 0x00FF0000FF000000L};
        long[] signs = {0, 0xFFFF, 0xFFFF, 0xFFFF, 0xFFFF, 1, 0x8000, 0xFFFF};
        for (int i = 0; i < secrets.length; i++) {
            CHECK.due("sign", Remotes.sign(secrets[i]), signs[i]);
            DoorKeys x = new DoorKeys(16);
            x.key(secrets[i], 65535);
            long code = Remotes.e(secrets[i], 65536 * signs[i]);
            CHECK.due("sign " + signs[i], Remotes.send(x, Remotes.frame(1, 0, code, 0)), 1);
            CHECK.due("counter", x.counter(1), 0);
        }
    }

    /** "for any c of 0 .. 65535": c = -1 and c = 65536 would be another SIGN's. */
    private static void countersOutsideOfACode() {
        long sign = 65536 * Remotes.sign(S2);
        long[] texts = {sign - 1, sign, sign + 65535, sign + 65536, sign + 65537};
        int[] counters = {65534, 65535, 65534, 65535, 0};
        int[] answers = {0, 1, 1, 0, 0};
        for (int i = 0; i < texts.length; i++) {
            DoorKeys x = two(16, counters[i]);
            byte[] frame = Remotes.frame(2, 0, Remotes.e(S2, texts[i]), 0);
            CHECK.due("text " + (texts[i] - sign), Remotes.send(x, frame), answers[i]);
        }
    }

    /** "four octets, the highest first", where all bits or the highest one alone are set or not. */
    private static void codesAtTheEnds() {
        long[] secrets = {0xAE35C7F9EA9992AAL, 0xC4FBC3234DDD2ADBL, 0x2511561C4F6322ECL, 0xD408CF8B0AD60479L};
        int[] counters = {45727, 7213, 44488, 2614};
        long[] codes = {0, 0xFFFFFFFFL, 0x7FFFFFFFL, 0x80000000L};
        for (int i = 0; i < codes.length; i++) {
            CHECK.due("code", Remotes.code(secrets[i], counters[i]), codes[i]);
            DoorKeys x = new DoorKeys(16);
            x.key(secrets[i], counters[i] - 1);
            CHECK.due("code " + codes[i], Remotes.send(x, Remotes.frame(1, 0, codes[i], 0)), 1);
            CHECK.due("counter", x.counter(1), counters[i]);
        }
    }

    /** "d from 1 to the SPAN", "d = 0, or above 32768", "others". */
    private static void edgesOfSpans() {
        for (int span : new int[] {1, 2, 16, 32766, 32767}) {
            for (int from : new int[] {0, 1, 32767, 32768, 65535}) {
                int[] d = {0, 1, span, span + 1, 32767, 32768, 32769, 65535};
                for (int step : d) {
                    DoorKeys x = two(span, from);
                    int want = step == 0 || step > 32768 ? 0 : step <= span ? 1 : 2;
                    CHECK.due("span " + span + " from " + from + ", d = " + step, press(x, from + step), want);
                    CHECK.due("counter", x.counter(1), want == 1 ? (from + step) % 65536 : from);
                }
            }
        }
    }

    /** A second that is awaited, at each edge that a first one can stand at. */
    private static void secondsAtTheEdges() {
        for (int span : new int[] {1, 16, 32765, 32766}) {
            for (int from : new int[] {0, 32768, 65535}) {
                for (int step : new int[] {span + 1, 32767}) {
                    DoorKeys x = two(span, from);
                    CHECK.due("first, d = " + step, press(x, from + step), 2);
                    CHECK.due("counter stays", x.counter(1), from);
                    CHECK.due("second", press(x, from + step + 1), 1);
                    CHECK.due("counter", x.counter(1), (from + step + 1) % 65536);
                }
            }
        }
        DoorKeys y = two(16, 65000);
        CHECK.due("65534", press(y, 65534), 2);
        CHECK.due("65535", press(y, 65535), 1);
        DoorKeys z = two(16, 65000);
        CHECK.due("0", press(z, 0), 2);
        CHECK.due("65535 is not the one behind 0", press(z, 65535), 2);
        CHECK.due("0 is", press(z, 0), 1);
    }

    /** "above 32768: 0", though it was awaited; and "nothing is awaited any more" then. */
    private static void nothingIsAwaitedBehindAFarSecond() {
        for (int from : new int[] {0, 40000, 65535}) {
            DoorKeys x = two(32767, from);
            CHECK.due("d = 32768", press(x, from + 32768), 2);
            CHECK.due("d = 32769, awaited", press(x, from + 32769), 0);
            CHECK.due("counter stays", x.counter(1), from);
            CHECK.due("d = 32768 again", press(x, from + 32768), 2);
            DoorKeys y = two(16, from);
            CHECK.due("d = 32767", press(y, from + 32767), 2);
            CHECK.due("d = 0", press(y, from), 0);
            CHECK.due("d = 32768 is awaited no more", press(y, from + 32768), 2);
        }
    }

    /** An awaited one that has come within the SPAN is taken for its d; a code within it ends the waiting. */
    private static void awaitedWithinTheSpan() {
        DoorKeys x = two(16, 100);
        CHECK.due("d = 17", press(x, 117), 2);
        CHECK.due("d = 16", press(x, 116), 1);
        CHECK.due("d = 2, awaited no more", press(x, 118), 1);
        CHECK.due("d = 17", press(x, 135), 2);
        CHECK.due("d = 1", press(x, 119), 1);
        CHECK.due("d = 17, awaited no more", press(x, 136), 2);
        CHECK.due("its second", press(x, 137), 1);
    }

    /** "One that is taken does its command": the first of two does neither its own nor the second's. */
    private static void secondsDoTheirOwn() {
        DoorKeys x = two(16, 0);
        CHECK.due("first", Remotes.press(x, 1, S1, 0, 1000, 1), 2);
        CHECK.doors("first", x, "11111");
        CHECK.due("no battery yet", x.battery(1), 0);
        CHECK.due("second", Remotes.press(x, 1, S1, 2, 1001, 1), 1);
        CHECK.doors("second", x, "11110");
        CHECK.due("battery", x.battery(1), 1);
    }

    /** "all are DEAD, if all are LOCKED (or DEAD)"; "the boot is OPEN, if it is not DEAD". */
    private static void oneOpenKeepsThreeFromDeadening() {
        long[][] places = {{1000, 900}, {1000, -900}, {-500, 900}, {-500, -900}, {-2200, 0}};
        for (int door = 0; door < 5; door++) {
            DoorKeys x = two(16, 0);
            x.field(1, places[door][0], places[door][1], 1);
            String one = "11111".substring(0, door) + "0" + "11111".substring(door + 1);
            CHECK.doors("one OPEN", x, one);
            CHECK.due("3 is taken", Remotes.press(x, 1, S1, 3, 1), 1);
            CHECK.doors("3 does nothing", x, one);
            Remotes.press(x, 1, S1, 1, 2);
            Remotes.press(x, 1, S1, 3, 3);
            CHECK.doors("3, none OPEN", x, "22222");
            x.field(1, places[door][0], places[door][1], 1);
            Remotes.press(x, 1, S1, 2, 4);
            CHECK.doors("2, one OPEN", x, one.replace('1', '2'));
            Remotes.press(x, 1, S1, 1, 5);
            Remotes.press(x, 1, S1, 2, 6);
            CHECK.doors("2, one LOCKED", x, door == 4 ? "22220" : one.replace('1', '2').replace('0', '1'));
        }
    }

    /** "the next octet begins another frame then": behind frames too short, too long, refused, taken. */
    private static void oneEndsWhereItsLastOctetIs() {
        DoorKeys x = two(16, 0);
        int counter = 0;
        for (int length : new int[] {1, 7, 9, 15, 16, 17, 30}) {
            Remotes.send(x, new byte[length]);
            counter++;
            CHECK.due("behind " + length, press(x, counter), 1);
            CHECK.due("refused", press(x, counter), 0);
            counter++;
            CHECK.due("behind one refused", press(x, counter), 1);
        }
    }
}
