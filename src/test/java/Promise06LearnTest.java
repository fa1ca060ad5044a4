/** Promise 6: a key is LEARNED by two LEARNED ones that are NEAR or INSIDE. -1 one of the three is none. */
public final class Promise06LearnTest {
    private static final Check CHECK = new Check("Promise06LearnTest");

    public static void main(String[] args) {
        who();
        where();
        unknown();
        unknownComesFirst();
        afterLearning();
        CHECK.end();
    }

    private static DoorKeys four() {
        DoorKeys x = new DoorKeys(16);
        for (int key = 1; key <= 4; key++) {
            x.key(key, 0);
        }
        return x;
    }

    private static void nearAndInside(DoorKeys x) {
        x.field(1, 1000, 2400, 1);
        x.field(2, 0, 0, 1);
    }

    private static void who() {
        DoorKeys x = four();
        nearAndInside(x);
        CHECK.due("one key twice", x.learn(3, 1, 1), 0);
        CHECK.due("the other twice", x.learn(3, 2, 2), 0);
        CHECK.due("itself and one", x.learn(3, 3, 1), 0);
        CHECK.due("one and itself", x.learn(3, 1, 3), 0);
        CHECK.due("one not LEARNED", x.learn(3, 1, 4), 0);
        CHECK.due("one not LEARNED", x.learn(3, 4, 2), 0);
        CHECK.due("LEARNED already", x.learn(1, 1, 2), 0);
        CHECK.due("0 taught nothing", x.field(3, 0, 0, 1), 0);
        CHECK.due("two", x.learn(3, 1, 2), 1);
        CHECK.due("now LEARNED", x.learn(3, 1, 2), 0);
        CHECK.due("in the other order", x.learn(4, 2, 1), 1);
    }

    private static void where() {
        DoorKeys x = four();
        CHECK.due("neither at first", x.learn(3, 1, 2), 0);
        x.field(1, 0, 0, 1);
        CHECK.due("one alone", x.learn(3, 1, 2), 0);
        CHECK.due("one alone", x.learn(3, 2, 1), 0);
        x.field(2, 5000, 0, 1);
        CHECK.due("one away", x.learn(3, 1, 2), 0);
        x.field(2, 0, 0, 2001);
        CHECK.due("one by a RELAY", x.learn(3, 1, 2), 0);
        x.field(2, 0, 0, 2000);
        CHECK.due("both INSIDE", x.learn(3, 1, 2), 1);
        x.field(1, 0, 0, 2001);
        CHECK.due("a RELAY ends it", x.learn(4, 1, 2), 0);
        x.field(1, 1000, 900, 1);
        x.field(1, 0, 0, 0);
        CHECK.due("a refused field ends nothing", x.learn(4, 1, 2), 1);
    }

    private static void unknown() {
        DoorKeys x = four();
        nearAndInside(x);
        int[] none = {0, -1, 5, 8, 9, 257, Integer.MAX_VALUE, Integer.MIN_VALUE};
        for (int key : none) {
            CHECK.due("learn(" + key + ", 1, 2)", x.learn(key, 1, 2), -1);
            CHECK.due("learn(3, " + key + ", 2)", x.learn(3, key, 2), -1);
            CHECK.due("learn(3, 1, " + key + ")", x.learn(3, 1, key), -1);
        }
        CHECK.due("refusals taught nothing", x.field(3, 0, 0, 1), 0);
        CHECK.due("refusals took nothing", x.learn(3, 1, 2), 1);
    }

    private static void unknownComesFirst() {
        DoorKeys x = new DoorKeys(0);
        CHECK.due("no keys yet", x.learn(1, 1, 1), -1);
        x.key(0, 0);
        CHECK.due("LEARNED already, both unknown", x.learn(1, 0, 0), -1);
        CHECK.due("LEARNED already, a unknown", x.learn(1, 2, 1), -1);
        CHECK.due("LEARNED already, b unknown", x.learn(1, 1, 2), -1);
        CHECK.due("LEARNED already, all known", x.learn(1, 1, 1), 0);
        x.key(1, 0);
        x.key(2, 0);
        CHECK.due("a away, b unknown", x.learn(3, 1, 4), -1);
        CHECK.due("a unknown, b away", x.learn(3, 4, 1), -1);
        CHECK.due("a not LEARNED, b unknown", x.learn(3, 3, 9), -1);
        CHECK.due("one unknown number twice", x.learn(3, 4, 4), -1);
        CHECK.due("all unknown", x.learn(0, 0, 0), -1);
        CHECK.due("all known, both away", x.learn(3, 1, 2), 0);
        x.key(3, 0);
        CHECK.due("the number is a key's by now", x.learn(3, 1, 4), 0);
        x.erase(2);
        CHECK.due("an erased key is still a key", x.learn(3, 1, 2), 0);
    }

    private static void afterLearning() {
        DoorKeys x = four();
        nearAndInside(x);
        CHECK.due("its frame before", Remotes.press(x, 3, 3, 0, 1), 0);
        x.field(3, 0, 0, 1);
        x.learn(3, 1, 2);
        CHECK.due("not INSIDE by learning", x.learn(4, 3, 1), 0);
        CHECK.due("its frame", Remotes.press(x, 3, 3, 0, 1), 1);
        CHECK.due("its field", x.field(3, 0, 0, 1), 1);
        CHECK.due("it may teach", x.learn(4, 3, 1), 1);
        x.erase(1);
        CHECK.due("an erased key is LEARNED again", x.learn(1, 2, 4), 0);
        CHECK.due("an erased key is LEARNED again", x.learn(1, 2, 3), 1);
        CHECK.due("and is not INSIDE", x.start(1, Remotes.e(1, Remotes.question(1))), 0);
    }
}
