/** Promise 14: what a door is, how many RELAYS there were, how many questions. */
public final class Promise14StateTest {
    private static final Check CHECK = new Check("Promise14StateTest");

    public static void main(String[] args) {
        doors();
        none();
        relaysAndQuestions();
        countsOnlyWhatItNames();
        anotherObject();
        CHECK.end();
    }

    private static DoorKeys fresh() {
        DoorKeys x = new DoorKeys(16);
        x.key(1, 0);
        return x;
    }

    private static void doors() {
        DoorKeys x = fresh();
        CHECK.doors("at first", x, "11111");
        x.field(1, 1000, -900, 1);
        CHECK.doors("one OPEN", x, "10111");
        x.lock(0);
        x.lock(1);
        CHECK.doors("all DEAD", x, "22222");
        x.field(1, -2200, 0, 1);
        CHECK.doors("the boot OPEN", x, "22220");
        x.lock(0);
        CHECK.doors("the boot LOCKED", x, "22221");
        x.field(1, 1000, 900, 1);
        CHECK.doors("all three", x, "02221");
        CHECK.due("RELAYS", x.state(5), 0);
        CHECK.due("questions", x.state(6), 0);
    }

    /** "-1 there is none": 0 .. 6 are, -1 and 7 are the first that are not. */
    private static void none() {
        DoorKeys x = new DoorKeys(16);
        for (int door : new int[] {-1, -2, 7, 8, 256, 261, Integer.MAX_VALUE, Integer.MIN_VALUE}) {
            CHECK.due("state(" + door + ")", x.state(door), -1);
        }
        x.crash();
        CHECK.due("state(-1) behind a CRASH", x.state(-1), -1);
        CHECK.due("state(7) behind a CRASH", x.state(7), -1);
        CHECK.doors("asking changed nothing", x, "00000");
    }

    private static void relaysAndQuestions() {
        DoorKeys x = fresh();
        for (int n = 1; n <= 100; n++) {
            x.field(1, 0, 0, 2000 + n);
            CHECK.due("RELAYS", x.state(5), n);
            x.start(1, 0);
            x.start(1, 0);
            CHECK.due("questions", x.state(6), 2 * n);
        }
    }

    private static void countsOnlyWhatItNames() {
        DoorKeys x = fresh();
        x.field(1, 0, 0, 2000);
        CHECK.due("the last time that is no RELAY", x.state(5), 0);
        x.field(1, 0, 0, 0);
        CHECK.due("no time", x.state(5), 0);
        x.field(2, 0, 0, 2001);
        CHECK.due("a RELAY of no key", x.state(5), 0);
        x.field(1, 0, 1000001, 2001);
        CHECK.due("a RELAY of no place", x.state(5), 0);
        x.field(1, 0, 0, 2001);
        CHECK.due("the first time that is one", x.state(5), 1);
        CHECK.due("no question yet", x.state(6), 0);
        x.start(0, 0);
        x.start(2, 0);
        CHECK.due("no key: nothing is asked", x.state(6), 0);
        x.start(1, -1);
        CHECK.due("an answer outside is one to a question", x.state(6), 1);
        CHECK.due("no RELAY more", x.state(5), 1);
    }

    private static void anotherObject() {
        DoorKeys x = fresh();
        DoorKeys y = fresh();
        x.crash();
        x.field(1, 0, 0, 2001);
        x.start(1, 0);
        CHECK.doors("another object", y, "11111");
        CHECK.due("its RELAYS", y.state(5), 0);
        CHECK.due("its questions", y.state(6), 0);
    }
}
