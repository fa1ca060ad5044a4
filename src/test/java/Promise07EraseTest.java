/** Promise 7: a LEARNED key is so no more, nor NEAR or INSIDE. */
public final class Promise07EraseTest {
    private static final Check CHECK = new Check("Promise07EraseTest");

    public static void main(String[] args) {
        only();
        unknown();
        forgets();
        isInsideNoMore();
        CHECK.end();
    }

    private static void only() {
        DoorKeys x = new DoorKeys(16);
        x.key(1, 0);
        CHECK.due("the only key", x.erase(1), 0);
        CHECK.due("it is still LEARNED", x.field(1, 0, 0, 1), 1);
        x.key(2, 0);
        x.key(3, 0);
        CHECK.due("one that was not LEARNED", x.erase(3), 0);
        CHECK.due("one of two", x.erase(2), 1);
        CHECK.due("it again", x.erase(2), 0);
        CHECK.due("the only LEARNED one", x.erase(1), 0);
        CHECK.due("it is still INSIDE", x.start(1, Remotes.e(1, Remotes.question(1))), 1);
    }

    private static void unknown() {
        DoorKeys x = new DoorKeys(16);
        CHECK.due("no keys", x.erase(1), -1);
        x.key(1, 0);
        x.key(2, 0);
        for (int key : new int[] {0, -1, 3, 8, 9, 257, Integer.MAX_VALUE, Integer.MIN_VALUE}) {
            CHECK.due("erase(" + key + ")", x.erase(key), -1);
        }
    }

    private static void forgets() {
        DoorKeys x = new DoorKeys(16);
        for (int key = 1; key <= 4; key++) {
            x.key(key, 0);
        }
        x.field(1, 0, 0, 1);
        x.field(2, 1000, 2400, 1);
        x.learn(3, 1, 2);
        x.field(3, 0, 0, 1);
        CHECK.due("an INSIDE key", x.erase(1), 1);
        CHECK.due("can't start", x.start(1, Remotes.e(1, Remotes.question(1))), 0);
        CHECK.due("can't teach", x.learn(4, 1, 2), 0);
        CHECK.due("has no field", x.field(1, 0, 0, 1), 0);
        CHECK.due("sends no frame", Remotes.press(x, 1, 1, 0, 1), 0);
        CHECK.due("keeps its secret", x.key(1, 0), -3);
        CHECK.due("is LEARNED anew", x.learn(1, 2, 3), 1);
        CHECK.due("is not INSIDE then", x.start(1, Remotes.e(1, Remotes.question(2))), 0);
        CHECK.due("nor NEAR", x.learn(4, 1, 2), 0);
        CHECK.due("a NEAR key", x.erase(2), 1);
        x.field(1, 0, 0, 1);
        CHECK.due("is LEARNED anew", x.learn(2, 1, 3), 1);
        CHECK.due("is not NEAR then", x.learn(4, 1, 2), 0);
    }

    /** No field is told between erasing and learning anew, which would end INSIDE by itself. */
    private static void isInsideNoMore() {
        DoorKeys x = new DoorKeys(16);
        for (int key = 1; key <= 4; key++) {
            x.key(key, 0);
            x.field(key, 0, 0, 1);
        }
        x.learn(3, 1, 2);
        x.field(3, 0, 0, 1);
        CHECK.due("an INSIDE key", x.erase(1), 1);
        CHECK.due("is LEARNED anew", x.learn(1, 2, 3), 1);
        CHECK.due("can't teach", x.learn(4, 1, 2), 0);
        CHECK.due("can't start", x.start(1, Remotes.e(1, Remotes.question(1))), 0);
    }
}
