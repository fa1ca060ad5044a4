/** Promise 6: a key is LEARNED by two LEARNED ones that are NEAR or INSIDE. -1 one of the three is none. */
public final class Promise06LearnTest {
    private static final Check CHECK = new Check("Promise06LearnTest");

    public static void main(String[] args) {
        who();
        where();
        unknown();
        unknownComesFirst();
        afterLearning();
        firstAndLastNumbers();
        teachersAtTheEdges();
        refusalsAndNoughtsTeachNothing();
        wrongAnswersLeaveTheTeachers();
        CHECK.end();
    }

    private static DoorKeys four() {
        DoorKeys x = new DoorKeys(16);
        for (int key = 1; key <= 4; key++) {
            x.key(key, 0);
        }
        return x;
    }

    private static void nearAndInside(DoorKeys x) {
        x.field(1, 1000, 2400, 1);
        x.field(2, 0, 0, 1);
    }

    private static void who() {
        DoorKeys x = four();
        nearAndInside(x);
        CHECK.due("one key twice", x.learn(3, 1, 1), 0);
        CHECK.due("the other twice", x.learn(3, 2, 2), 0);
        CHECK.due("itself and one", x.learn(3, 3, 1), 0);
        CHECK.due("one and itself", x.learn(3, 1, 3), 0);
        CHECK.due("one not LEARNED", x.learn(3, 1, 4), 0);
        CHECK.due("one not LEARNED", x.learn(3, 4, 2), 0);
        CHECK.due("LEARNED already", x.learn(1, 1, 2), 0);
        CHECK.due("0 taught nothing", x.field(3, 0, 0, 1), 0);
        CHECK.due("two", x.learn(3, 1, 2), 1);
        CHECK.due("now LEARNED", x.learn(3, 1, 2), 0);
        CHECK.due("in the other order", x.learn(4, 2, 1), 1);
    }

    private static void where() {
        DoorKeys x = four();
        CHECK.due("neither at first", x.learn(3, 1, 2), 0);
        x.field(1, 0, 0, 1);
        CHECK.due("one alone", x.learn(3, 1, 2), 0);
        CHECK.due("one alone", x.learn(3, 2, 1), 0);
        x.field(2, 5000, 0, 1);
        CHECK.due("one away", x.learn(3, 1, 2), 0);
        x.field(2, 0, 0, 2001);
        CHECK.due("one by a RELAY", x.learn(3, 1, 2), 0);
        x.field(2, 0, 0, 2000);
        CHECK.due("both INSIDE", x.learn(3, 1, 2), 1);
        x.field(1, 0, 0, 2001);
        CHECK.due("a RELAY ends it", x.learn(4, 1, 2), 0);
        x.field(1, 1000, 900, 1);
        x.field(1, 0, 0, 0);
        CHECK.due("a refused field ends nothing", x.learn(4, 1, 2), 1);
    }

    private static void unknown() {
        DoorKeys x = four();
        nearAndInside(x);
        int[] none = {0, -1, 5, 8, 9, 257, Integer.MAX_VALUE, Integer.MIN_VALUE};
        for (int key : none) {
            CHECK.due("learn(" + key + ", 1, 2)", x.learn(key, 1, 2), -1);
            CHECK.due("learn(3, " + key + ", 2)", x.learn(3, key, 2), -1);
            CHECK.due("learn(3, 1, " + key + ")", x.learn(3, 1, key), -1);
        }
        CHECK.due("refusals taught nothing", x.field(3, 0, 0, 1), 0);
        CHECK.due("refusals took nothing", x.learn(3, 1, 2), 1);
    }

    private static void unknownComesFirst() {
        DoorKeys x = new DoorKeys(0);
        CHECK.due("no keys yet", x.learn(1, 1, 1), -1);
        x.key(0, 0);
        CHECK.due("LEARNED already, both unknown", x.learn(1, 0, 0), -1);
        CHECK.due("LEARNED already, a unknown", x.learn(1, 2, 1), -1);
        CHECK.due("LEARNED already, b unknown", x.learn(1, 1, 2), -1);
        CHECK.due("LEARNED already, all known", x.learn(1, 1, 1), 0);
        x.key(1, 0);
        x.key(2, 0);
        CHECK.due("a away, b unknown", x.learn(3, 1, 4), -1);
        CHECK.due("a unknown, b away", x.learn(3, 4, 1), -1);
        CHECK.due("a not LEARNED, b unknown", x.learn(3, 3, 9), -1);
        CHECK.due("one unknown number twice", x.learn(3, 4, 4), -1);
        CHECK.due("all unknown", x.learn(0, 0, 0), -1);
        CHECK.due("all known, both away", x.learn(3, 1, 2), 0);
        x.key(3, 0);
        CHECK.due("the number is a key's by now", x.learn(3, 1, 4), 0);
        x.erase(2);
        CHECK.due("an erased key is still a key", x.learn(3, 1, 2), 0);
    }

    private static void afterLearning() {
        DoorKeys x = four();
        nearAndInside(x);
        CHECK.due("its frame before", Remotes.press(x, 3, 3, 0, 1), 0);
        x.field(3, 0, 0, 1);
        x.learn(3, 1, 2);
        CHECK.due("not INSIDE by learning", x.learn(4, 3, 1), 0);
        CHECK.due("its frame", Remotes.press(x, 3, 3, 0, 1), 1);
        CHECK.due("its field", x.field(3, 0, 0, 1), 1);
        CHECK.due("it may teach", x.learn(4, 3, 1), 1);
        x.erase(1);
        CHECK.due("an erased key is LEARNED again", x.learn(1, 2, 4), 0);
        CHECK.due("an erased key is LEARNED again", x.learn(1, 2, 3), 1);
        CHECK.due("and is not INSIDE", x.start(1, Remotes.e(1, Remotes.question(1))), 0);
    }

    /** "-1 there is no such key", of all three numbers, with room for keys and without. */
    private static void firstAndLastNumbers() {
        DoorKeys x = four();
        for (int keys = 4; keys <= 8; keys++) {
            nearAndInside(x);
            int next = keys + 1;
            CHECK.due("key 0 of " + keys, x.learn(0, 1, 2), -1);
            CHECK.due("a 0 of " + keys, x.learn(4, 0, 2), -1);
            CHECK.due("b 0 of " + keys, x.learn(4, 1, 0), -1);
            CHECK.due("key " + next + " of " + keys, x.learn(next, 1, 2), -1);
            CHECK.due("a " + next + " of " + keys, x.learn(4, next, 2), -1);
            CHECK.due("b " + next + " of " + keys, x.learn(4, 1, next), -1);
            CHECK.due("the last as a", x.learn(4, keys, 1), 0);
            CHECK.due("the last as b", x.learn(4, 1, keys), 0);
            x.key(next, 0);
        }
        CHECK.due("the last of 8", x.learn(8, 1, 2), 1);
        x.field(8, 0, 0, 1);
        CHECK.due("the last of 8 as a", x.learn(7, 8, 2), 1);
        CHECK.due("the last of 8 as b", x.learn(6, 1, 8), 1);
        CHECK.due("there is no ninth", x.learn(9, 1, 2), -1);
    }

    /** "NEAR or INSIDE", at the last place and time of each and the first beyond. */
    private static void teachersAtTheEdges() {
        long[][] fields = {{1000, 2400, 1, 1}, {1000, 2401, 1, 0}, {-3700, 0, 2000, 1}, {-3701, 0, 2000, 0},
            {2000, 800, 2000, 1}, {2000, 800, 2001, 0}, {1000, 900, 2001, 0}, {1000000, 1000000, 1, 0}};
        for (long[] f : fields) {
            DoorKeys x = four();
            nearAndInside(x);
            CHECK.due("field", x.field(1, f[0], f[1], f[2]), f[3]);
            CHECK.due("its field told " + f[3], x.learn(3, 1, 2), f[3]);
            DoorKeys y = four();
            nearAndInside(y);
            y.field(2, f[0], f[1], f[2]);
            CHECK.due("the other's field told " + f[3], y.learn(3, 1, 2), f[3]);
        }
    }

    private static void refusalsAndNoughtsTeachNothing() {
        int[][] calls = {{3, 1, 1}, {3, 3, 1}, {3, 1, 3}, {3, 3, 3}, {3, 4, 4}, {3, 1, 4}, {3, 0, 2}, {3, 1, 5}, {5, 1, 2}};
        for (int[] call : calls) {
            DoorKeys x = four();
            nearAndInside(x);
            int want = call[0] == 5 || call[1] == 0 || call[2] == 5 ? -1 : 0;
            CHECK.due("learn(" + call[0] + ", " + call[1] + ", " + call[2] + ")", x.learn(call[0], call[1], call[2]), want);
            for (int key = 3; key <= 4; key++) {
                CHECK.due("no field", x.field(key, 0, 0, 1), 0);
                CHECK.due("no frame", Remotes.press(x, key, key, 0, 1), 0);
                CHECK.due("nothing to erase", x.erase(key), 0);
            }
        }
    }

    private static void wrongAnswersLeaveTheTeachers() {
        DoorKeys x = four();
        nearAndInside(x);
        x.learn(1, 1, 2);
        x.learn(3, 1, 1);
        x.learn(9, 1, 2);
        CHECK.due("they may teach", x.learn(3, 1, 2), 1);
        CHECK.due("teaching ends nothing", x.learn(4, 1, 2), 1);
        CHECK.due("nor INSIDE", x.start(2, Remotes.e(2, Remotes.question(1))), 1);
    }
}
