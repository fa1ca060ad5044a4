/** Promise 2: a key's number; -2 the counter is none, -3 a key has that secret, -4 there are 8. */
public final class Promise02KeyTest {
    private static final Check CHECK = new Check("Promise02KeyTest");

    public static void main(String[] args) {
        numbersAndRefusals();
        countersThatAreNone();
        firstTwoAreLearned();
        keyBeginsAnew();
        roomForEight();
        erasingMakesNoRoom();
        refusalsAreNoKeys();
        refusalsLeaveTheKeys();
        firstTwoAreThoseMadeFirst();
        secretsDifferInOneBit();
        CHECK.end();
    }

    private static void numbersAndRefusals() {
        DoorKeys x = new DoorKeys(16);
        long[] secrets = {0, -1, Long.MIN_VALUE, Long.MAX_VALUE, 5, 5L << 32, 5L << 48, 6};
        for (int i = 0; i < 8; i++) {
            CHECK.due("key", x.key(secrets[i], i), i + 1);
            CHECK.due("its counter", x.counter(i + 1), i);
            CHECK.due("the next one's counter", x.counter(i + 2), -1);
            for (int j = 0; j <= i; j++) {
                CHECK.due("a secret again", x.key(secrets[j], 1), -3);
                CHECK.due("a secret again, no counter", x.key(secrets[j], 65536), -2);
            }
        }
        CHECK.due("a ninth", x.key(7, 0), -4);
        CHECK.due("a ninth with a known secret", x.key(6, 0), -3);
        CHECK.due("a ninth with no counter", x.key(7, -1), -2);
        CHECK.due("no ninth", x.counter(9), -1);
    }

    private static void countersThatAreNone() {
        DoorKeys x = new DoorKeys(16);
        long[] none = {-1, 65536, 65537, 1L << 32, (1L << 32) + 5, Long.MIN_VALUE, Long.MAX_VALUE};
        for (long counter : none) {
            CHECK.due("key(1, " + counter + ")", x.key(1, counter), -2);
        }
        CHECK.due("refusals made no key", x.counter(1), -1);
        CHECK.due("lowest", x.key(1, 0), 1);
        CHECK.due("highest", x.key(2, 65535), 2);
        CHECK.due("lowest kept", x.counter(1), 0);
        CHECK.due("highest kept", x.counter(2), 65535);
    }

    private static void firstTwoAreLearned() {
        DoorKeys x = new DoorKeys(16);
        for (int key = 1; key <= 8; key++) {
            x.key(100 + key, 0);
            CHECK.due("field of key " + key, x.field(key, 0, 0, 1), key <= 2 ? 1 : 0);
            CHECK.due("frame of key " + key, Remotes.press(x, key, 100 + key, 0, 1), key <= 2 ? 1 : 0);
        }
    }

    private static void keyBeginsAnew() {
        DoorKeys x = new DoorKeys(16);
        x.key(1, 0);
        x.key(2, 0);
        x.key(3, 0);
        CHECK.due("battery of a new key", x.battery(1), 0);
        CHECK.due("new keys are neither NEAR nor INSIDE", x.learn(3, 1, 2), 0);
        CHECK.due("nor can they start", x.start(1, Remotes.e(1, Remotes.question(1))), 0);
    }

    /** "at most 8", "-4 there are 8". */
    private static void roomForEight() {
        DoorKeys x = new DoorKeys(16);
        for (int key = 1; key <= 8; key++) {
            CHECK.due("key " + key, x.key(key, key), key);
        }
        for (int more = 9; more <= 20; more++) {
            CHECK.due("no room", x.key(more, more), -4);
            CHECK.due("no key", x.counter(more), -1);
        }
        CHECK.due("the eighth is kept", x.counter(8), 8);
        CHECK.due("the first is kept", x.counter(1), 1);
    }

    private static void erasingMakesNoRoom() {
        DoorKeys x = new DoorKeys(16);
        for (int key = 1; key <= 8; key++) {
            x.key(key, 0);
        }
        CHECK.due("erase", x.erase(2), 1);
        CHECK.due("still 8", x.key(9, 0), -4);
        CHECK.due("an erased key's secret", x.key(2, 0), -3);
    }

    /** "REFUSALS change nothing": one refused takes neither a number nor the place of one LEARNED at once. */
    private static void refusalsAreNoKeys() {
        DoorKeys x = new DoorKeys(16);
        CHECK.due("below", x.key(1, -1), -2);
        CHECK.due("above", x.key(2, 65536), -2);
        CHECK.due("the first", x.key(1, 0), 1);
        CHECK.due("its secret", x.key(1, 0), -3);
        CHECK.due("above", x.key(2, 65536), -2);
        CHECK.due("the second", x.key(2, 0), 2);
        CHECK.due("the third", x.key(3, 0), 3);
        CHECK.due("the first is LEARNED", x.field(1, 0, 0, 1), 1);
        CHECK.due("the second is LEARNED", x.field(2, 0, 0, 1), 1);
        CHECK.due("the third is not", x.field(3, 0, 0, 1), 0);
    }

    private static void refusalsLeaveTheKeys() {
        DoorKeys x = new DoorKeys(16);
        for (int key = 1; key <= 8; key++) {
            x.key(key, 100 * key);
            CHECK.due("its secret again", x.key(key, 7), -3);
            CHECK.due("its secret again, no counter", x.key(key, -1), -2);
            CHECK.due("its counter", x.counter(key), 100 * key);
        }
        CHECK.due("no room", x.key(9, 7), -4);
        for (int key = 1; key <= 8; key++) {
            CHECK.due("counter of key " + key, x.counter(key), 100 * key);
        }
        CHECK.due("the first one's secret is its own", Remotes.press(x, 1, 1, 0, 101), 1);
    }

    private static void firstTwoAreThoseMadeFirst() {
        DoorKeys x = new DoorKeys(16);
        x.key(1, 0);
        x.key(2, 0);
        x.erase(2);
        x.key(3, 0);
        CHECK.due("a third is not LEARNED for an erased second", x.field(3, 0, 0, 1), 0);
        CHECK.due("one of two is LEARNED", x.erase(1), 0);
    }

    private static void secretsDifferInOneBit() {
        for (int bit = 0; bit < 64; bit++) {
            DoorKeys x = new DoorKeys(16);
            x.key(0, 0);
            CHECK.due("bit " + bit, x.key(1L << bit, 0), 2);
            CHECK.due("bit " + bit + " again", x.key(1L << bit, 0), -3);
        }
    }
}
