/** Promise 7: a LEARNED key is so no more, nor NEAR or INSIDE. */
public final class Promise07EraseTest {
    private static final Check CHECK = new Check("Promise07EraseTest");

    public static void main(String[] args) {
        only();
        unknown();
        forgets();
        isInsideNoMore();
        downToTheOnlyOne();
        firstAndLastNumbers();
        noughtsChangeNothing();
        leavesTheRest();
        CHECK.end();
    }

    private static void only() {
        DoorKeys x = new DoorKeys(16);
        x.key(1, 0);
        CHECK.due("the only key", x.erase(1), 0);
        CHECK.due("it is still LEARNED", x.field(1, 0, 0, 1), 1);
        x.key(2, 0);
        x.key(3, 0);
        CHECK.due("one that was not LEARNED", x.erase(3), 0);
        CHECK.due("one of two", x.erase(2), 1);
        CHECK.due("it again", x.erase(2), 0);
        CHECK.due("the only LEARNED one", x.erase(1), 0);
        CHECK.due("it is still INSIDE", x.start(1, Remotes.e(1, Remotes.question(1))), 1);
    }

    private static void unknown() {
        DoorKeys x = new DoorKeys(16);
        CHECK.due("no keys", x.erase(1), -1);
        x.key(1, 0);
        x.key(2, 0);
        for (int key : new int[] {0, -1, 3, 8, 9, 257, Integer.MAX_VALUE, Integer.MIN_VALUE}) {
            CHECK.due("erase(" + key + ")", x.erase(key), -1);
        }
    }

    private static void forgets() {
        DoorKeys x = new DoorKeys(16);
        for (int key = 1; key <= 4; key++) {
            x.key(key, 0);
        }
        x.field(1, 0, 0, 1);
        x.field(2, 1000, 2400, 1);
        x.learn(3, 1, 2);
        x.field(3, 0, 0, 1);
        CHECK.due("an INSIDE key", x.erase(1), 1);
        CHECK.due("can't start", x.start(1, Remotes.e(1, Remotes.question(1))), 0);
        CHECK.due("can't teach", x.learn(4, 1, 2), 0);
        CHECK.due("has no field", x.field(1, 0, 0, 1), 0);
        CHECK.due("sends no frame", Remotes.press(x, 1, 1, 0, 1), 0);
        CHECK.due("keeps its secret", x.key(1, 0), -3);
        CHECK.due("is LEARNED anew", x.learn(1, 2, 3), 1);
        CHECK.due("is not INSIDE then", x.start(1, Remotes.e(1, Remotes.question(2))), 0);
        CHECK.due("nor NEAR", x.learn(4, 1, 2), 0);
        CHECK.due("a NEAR key", x.erase(2), 1);
        x.field(1, 0, 0, 1);
        CHECK.due("is LEARNED anew", x.learn(2, 1, 3), 1);
        CHECK.due("is not NEAR then", x.learn(4, 1, 2), 0);
    }

    /** No field is told between erasing and learning anew, which would end INSIDE by itself. */
    private static void isInsideNoMore() {
        DoorKeys x = new DoorKeys(16);
        for (int key = 1; key <= 4; key++) {
            x.key(key, 0);
            x.field(key, 0, 0, 1);
        }
        x.learn(3, 1, 2);
        x.field(3, 0, 0, 1);
        CHECK.due("an INSIDE key", x.erase(1), 1);
        CHECK.due("is LEARNED anew", x.learn(1, 2, 3), 1);
        CHECK.due("can't teach", x.learn(4, 1, 2), 0);
        CHECK.due("can't start", x.start(1, Remotes.e(1, Remotes.question(1))), 0);
    }

    private static DoorKeys eightLearned() {
        DoorKeys x = new DoorKeys(16);
        for (int key = 1; key <= 8; key++) {
            x.key(key, 0);
        }
        x.field(1, 0, 0, 1);
        x.field(2, 0, 0, 1);
        for (int key = 3; key <= 8; key++) {
            CHECK.due("learn " + key, x.learn(key, 1, 2), 1);
        }
        return x;
    }

    /** "0 if it is the only one": whichever of the eight that is. */
    private static void downToTheOnlyOne() {
        for (int only = 1; only <= 8; only++) {
            DoorKeys x = eightLearned();
            for (int key = 1; key <= 8; key++) {
                if (key != only) {
                    CHECK.due("erase(" + key + ")", x.erase(key), 1);
                    CHECK.due("erase(" + key + ") again", x.erase(key), 0);
                }
            }
            CHECK.due("the only one", x.erase(only), 0);
            CHECK.due("the only one again", x.erase(only), 0);
            CHECK.due("it is LEARNED", x.field(only, 0, 0, 1), 1);
            CHECK.due("its frame", Remotes.press(x, only, only, 0, 1), 1);
        }
    }

    /** "-1 there is none", with room for keys and without. */
    private static void firstAndLastNumbers() {
        DoorKeys x = new DoorKeys(16);
        for (int keys = 0; keys <= 8; keys++) {
            CHECK.due("erase(0) of " + keys, x.erase(0), -1);
            CHECK.due("one more than " + keys, x.erase(keys + 1), -1);
            x.key(keys, 0);
        }
        CHECK.due("erase(9) of 8", x.erase(9), -1);
        CHECK.due("refusals erased none: 1", x.field(1, 0, 0, 1), 1);
        CHECK.due("refusals erased none: 2", x.field(2, 0, 0, 1), 1);
        CHECK.due("the last of 8", eightLearned().erase(8), 1);
    }

    private static void noughtsChangeNothing() {
        DoorKeys x = new DoorKeys(16);
        x.key(1, 0);
        x.field(1, 0, 0, 1);
        Remotes.press(x, 1, 1, 1, 100);
        CHECK.due("the only one", x.erase(1), 0);
        CHECK.due("INSIDE stays", x.start(1, Remotes.e(1, Remotes.question(1))), 1);
        CHECK.due("what is awaited stays", Remotes.press(x, 1, 1, 1, 101), 1);
        x.key(2, 0);
        x.key(3, 0);
        x.field(2, 1000, 900, 1);
        CHECK.due("not LEARNED", x.erase(3), 0);
        CHECK.due("the others stay", x.learn(3, 1, 2), 1);
    }

    private static void leavesTheRest() {
        DoorKeys x = eightLearned();
        x.lock(3);
        Remotes.press(x, 8, 8, 0, 5, 1);
        CHECK.due("erase", x.erase(8), 1);
        CHECK.due("its counter", x.counter(8), 5);
        CHECK.due("its battery", x.battery(8), 1);
        CHECK.doors("doors", x, "00000");
        CHECK.due("another key's field", x.erase(7), 1);
        CHECK.due("two may teach", x.learn(8, 1, 2), 1);
    }
}
