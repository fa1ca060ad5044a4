/** Promise 9: a question and a key's answer. */
public final class Promise09StartTest {
    private static final Check CHECK = new Check("Promise09StartTest");
    private static final long SECRET = 0xC0FFEE0123456789L;

    public static void main(String[] args) {
        questionsRoll();
        wrongAnswers();
        wrongKeys();
        endsACrash();
        answersAtTheEnds();
        firstAndLastNumbers();
        questionsWithoutAnEnd();
        aStartWithoutACrash();
        CHECK.end();
    }

    private static DoorKeys inside() {
        DoorKeys x = new DoorKeys(16);
        x.key(SECRET, 0);
        x.key(2, 0);
        x.key(3, 0);
        x.field(1, 0, 0, 1);
        return x;
    }

    private static long answer(long secret, int n) {
        return Remotes.e(secret, Remotes.question(n));
    }

    private static void questionsRoll() {
        CHECK.due("question 1", Remotes.question(1), 2654435761L);
        CHECK.due("question 2", Remotes.question(2), 1013904226L);
        DoorKeys x = inside();
        for (int n = 1; n <= 200; n++) {
            CHECK.due("question " + n, x.start(1, answer(SECRET, n)), 1);
            CHECK.due("questions", x.state(6), n);
        }
        CHECK.due("an old answer", x.start(1, answer(SECRET, 200)), 0);
        CHECK.due("a wrong one counts", x.state(6), 201);
        CHECK.due("question 202", x.start(1, answer(SECRET, 202)), 1);
    }

    private static void wrongAnswers() {
        long right = answer(SECRET, 1);
        long[] wrong = {0, -1, right + 1, right - 1, right + (1L << 32), right - (1L << 32), (long) (int) right | 1L << 63,
            -right, Long.MIN_VALUE, Long.MAX_VALUE, Remotes.question(1)};
        for (long each : wrong) {
            CHECK.due("start(1, " + each + ")", inside().start(1, each), 0);
        }
        CHECK.due("the right one", inside().start(1, right), 1);
        // An answer in the upper half, where an int would be below 0
        DoorKeys x = inside();
        boolean upper = false;
        for (int n = 1; n <= 20; n++) {
            long due = answer(SECRET, n);
            if (due > Integer.MAX_VALUE) {
                upper = true;
                CHECK.due("an answer as an int", inside().start(1, (int) due), 0);
            }
            CHECK.due("an answer", x.start(1, due), 1);
        }
        CHECK.due("some answers were in the upper half", upper ? 1 : 0, 1);
    }

    private static void wrongKeys() {
        DoorKeys x = inside();
        for (int key : new int[] {0, -1, 4, 9, 257, Integer.MAX_VALUE, Integer.MIN_VALUE}) {
            CHECK.due("start(" + key + ")", x.start(key, 0), -1);
        }
        CHECK.due("nothing was asked", x.state(6), 0);
        CHECK.due("not INSIDE", x.start(2, answer(2, 1)), 0);
        CHECK.due("not LEARNED", x.start(3, answer(3, 2)), 0);
        CHECK.due("all were asked", x.state(6), 2);
        x.field(2, 1000, 900, 1);
        CHECK.due("NEAR alone", x.start(2, answer(2, 3)), 0);
        x.field(2, 0, 0, 1);
        CHECK.due("another key's answer", x.start(2, answer(SECRET, 4)), 0);
        CHECK.due("its own", x.start(2, answer(2, 5)), 1);
        x.erase(1);
        CHECK.due("erased", x.start(1, answer(SECRET, 6)), 0);
    }

    private static void endsACrash() {
        DoorKeys x = inside();
        x.crash();
        CHECK.due("a wrong answer", x.start(1, 0), 0);
        CHECK.due("still behind the CRASH", x.lock(0), -3);
        CHECK.due("no key", x.start(9, 0), -1);
        CHECK.due("still behind the CRASH", x.lock(0), -3);
        CHECK.due("right", x.start(1, answer(SECRET, 2)), 1);
        CHECK.doors("a start leaves the doors", x, "00000");
        CHECK.due("no more", x.lock(0), 5);
        x.crash();
        CHECK.due("another CRASH", x.lock(0), -3);
    }

    /** "from 0 to 2^32 - 1": keys whose right answer to the first question stands at an end. */
    private static void answersAtTheEnds() {
        long[] secrets = {0x2D7BE442F1114E59L, 0x9E05423279B8977BL, 0x8A27992704B7B482L, 0x51A1E7A902AA4035L};
        long[] answers = {0, 0xFFFFFFFFL, 0x7FFFFFFFL, 0x80000000L};
        for (int i = 0; i < secrets.length; i++) {
            CHECK.due("the right answer", answer(secrets[i], 1), answers[i]);
            long right = answers[i];
            long[] tries = {right, right - 1, right + 1, right + (1L << 32), right - (1L << 32), right | 1L << 63};
            for (int j = 0; j < tries.length; j++) {
                DoorKeys x = new DoorKeys(16);
                x.key(secrets[i], 0);
                x.field(1, 0, 0, 1);
                CHECK.due("start(1, " + tries[j] + ")", x.start(1, tries[j]), j == 0 ? 1 : 0);
                CHECK.due("asked", x.state(6), 1);
            }
        }
    }

    /** "-1 there is no key (nothing is asked)", with room for keys and without. */
    private static void firstAndLastNumbers() {
        DoorKeys x = new DoorKeys(16);
        for (int keys = 0; keys <= 8; keys++) {
            CHECK.due("start(0) of " + keys, x.start(0, 0), -1);
            CHECK.due("one more than " + keys, x.start(keys + 1, 0), -1);
            CHECK.due("nothing was asked", x.state(6), 0);
            x.key(100 + keys, 0);
        }
        x.field(1, 0, 0, 1);
        x.field(2, 0, 0, 1);
        x.learn(8, 1, 2);
        x.field(8, 0, 0, 1);
        CHECK.due("the first question is the last key's", x.start(8, answer(107, 1)), 1);
        CHECK.due("no ninth", x.start(9, answer(108, 2)), -1);
        CHECK.due("the second question is still to come", x.start(1, answer(100, 2)), 1);
    }

    /** "2654435761 n modulo 2^32": as far as the calls of one object reach. */
    private static void questionsWithoutAnEnd() {
        DoorKeys x = inside();
        for (int n = 1; n <= 507; n++) {
            CHECK.due("question " + n, x.start(1, n % 3 == 0 ? answer(SECRET, n) : answer(SECRET, n - 1)), n % 3 == 0 ? 1 : 0);
        }
        CHECK.due("questions", x.state(6), 507);
    }

    private static void aStartWithoutACrash() {
        DoorKeys x = inside();
        CHECK.due("start", x.start(1, answer(SECRET, 1)), 1);
        CHECK.due("and again", x.start(1, answer(SECRET, 2)), 1);
        CHECK.doors("it leaves the doors", x, "11111");
        x.lock(1);
        CHECK.due("DEAD", x.start(1, answer(SECRET, 3)), 1);
        CHECK.doors("it leaves the DEAD", x, "22222");
        x.crash();
        CHECK.due("a CRASH behind a start", x.lock(0), -3);
    }
}
