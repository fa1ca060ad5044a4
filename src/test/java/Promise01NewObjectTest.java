/** Promise 1: a SPAN of 1 .. 32767, 16 for any other number; no keys. */
public final class Promise01NewObjectTest {
    private static final long SECRET = 0x123456789ABCDEFL;
    private static final Check CHECK = new Check("Promise01NewObjectTest");

    public static void main(String[] args) {
        for (int span : new int[] {1, 2, 15, 16, 17, 300, 32766, 32767}) {
            spanIs(span, span);
        }
        for (int span : new int[] {0, -1, 32768, 65536, 65537, Integer.MAX_VALUE, Integer.MIN_VALUE}) {
            spanIs(span, 16);
        }
        hasNothing();
        lastSpansInsideAndFirstOutside();
        firstKeyIsNumberOne();
        CHECK.end();
    }

    private static void spanIs(int given, int span) {
        DoorKeys inside = new DoorKeys(given);
        inside.key(SECRET, 40000);
        CHECK.due("span " + given + ", d = span", Remotes.press(inside, 1, SECRET, 0, 40000 + span), 1);
        DoorKeys outside = new DoorKeys(given);
        outside.key(SECRET, 40000);
        CHECK.due("span " + given + ", d = span + 1", Remotes.press(outside, 1, SECRET, 0, 40001 + span), 2);
    }

    private static void hasNothing() {
        DoorKeys x = new DoorKeys(16);
        for (int key = -1; key <= 9; key++) {
            CHECK.due("counter", x.counter(key), -1);
            CHECK.due("battery", x.battery(key), -1);
            CHECK.due("field", x.field(key, 0, 0, 1), -1);
            CHECK.due("learn", x.learn(key, 1, 2), -1);
            CHECK.due("erase", x.erase(key), -1);
            CHECK.due("start", x.start(key, 0), -1);
        }
        CHECK.doors("new", x, "11111");
        CHECK.due("relays", x.state(5), 0);
        CHECK.due("questions", x.state(6), 0);
        CHECK.noOctet(x, 0);
        CHECK.due("a frame without keys", Remotes.press(x, 1, SECRET, 0, 1), 0);
        CHECK.due("a frame of key 0", Remotes.press(x, 0, SECRET, 0, 1), 0);
    }

    /** "(1 .. 32767; 16 for any other number)": a code at 17 tells the two apart. */
    private static void lastSpansInsideAndFirstOutside() {
        int[] spans = {Integer.MIN_VALUE, -32768, -1, 0, 1, 16, 17, 32766, 32767, 32768, 65537, Integer.MAX_VALUE};
        int[] at17 = {2, 2, 2, 2, 2, 2, 1, 1, 1, 2, 2, 2};
        int[] at16 = {1, 1, 1, 1, 2, 1, 1, 1, 1, 1, 1, 1};
        for (int i = 0; i < spans.length; i++) {
            CHECK.due("span " + spans[i] + ", d = 17", answerAt(spans[i], 17), at17[i]);
            CHECK.due("span " + spans[i] + ", d = 16", answerAt(spans[i], 16), at16[i]);
            CHECK.due("span " + spans[i] + ", d = 1", answerAt(spans[i], 1), 1);
            CHECK.due("span " + spans[i] + ", d = 0", answerAt(spans[i], 0), 0);
        }
    }

    private static int answerAt(int span, int d) {
        DoorKeys x = new DoorKeys(span);
        x.key(SECRET, 65530);
        return Remotes.press(x, 1, SECRET, 0, 65530 + d);
    }

    private static void firstKeyIsNumberOne() {
        for (int span : new int[] {0, 1, 16, 32767, 32768}) {
            DoorKeys x = new DoorKeys(span);
            CHECK.due("a first key", x.key(0, 0), 1);
            CHECK.due("in another object", new DoorKeys(span).counter(1), -1);
        }
    }
}
