import java.io.IOException;

/** The document from promise 1 to its end: each sentence, and answers that hold to it. */
public final class DocumentPromisesTest {
    private static final Document DOC = new Document("DocumentPromisesTest");
    private static final String CHANGE = "This is a change.";
    private static final String BUTTON_SETS = "- `buttons`: 0 to 63";
    private static final String SLOTS = "- `slot`: 0 or 1";
    private static final int LEAST = Integer.MIN_VALUE, MOST = Integer.MAX_VALUE;
    private static final int[] NO_RELAYS = {LEAST, -1, 10, MOST};
    private static final int[] NO_BUTTON_SETS = {LEAST, -1, 64, MOST};

    public static void main(String[] args) throws IOException {
        newObject();
        time();
        life();
        read();
        press();
        weld();
        pass();
        settle();
        relay();
        branch();
        count();
        ifPressed();
        rest();
        race();
        ifWelded();
        unsafe();
        reach();
        put();
        wipe();
        fault();
        undo();
        save();
        restore();
        notPromised();
        DOC.end("");
    }

    /** A is up and held by itself, B waits for its second tick, J is down; all buttons are off; four changes. */
    private static WeldedRelays busyRoom() {
        WeldedRelays x = Due.room("A=a+A!b;B=A;J=c");
        x.press(0, true);
        x.pass(3);
        x.press(0, false);
        return x;
    }

    /** All is otherwise than in the busy room: what is up, circuits, times, waits, operations, welds, and so on. */
    private static void makeOtherwise(WeldedRelays x) {
        Due.read(x, "A=a;B=aa+b!b;C=c;D=d;J=!c");
        x.time(0, false, 9);
        x.time(0, true, 8);
        x.time(9, false, 3);
        x.time(9, true, 7);
        x.life(98);
        x.settle();
        x.weld(9, true);
        x.press(3, true);
        x.pass(1);
    }

    private static void newObject() {
        DOC.heading("## Promise 1: A new object");
        DOC.says("`WeldedRelays()`: Creates a room without circuits.");
        WeldedRelays x = new WeldedRelays();
        DOC.is("count(8)", x.count(8), 0);
        for (int relay = 0; relay < 10; relay++) {
            DOC.is("relay(" + relay + ", 8)", x.relay(relay, 8), 0);
            DOC.is("branch(" + relay + ", 0, 0)", x.branch(relay, 0, 0), Due.NO_SUCH);
        }
    }

    private static void time() {
        DOC.heading("## Promise 2: time");
        DOC.says("`int time(int relay, boolean isDrop, int ticks)`: Changes a time of a relay.");
        WeldedRelays x = Due.room("J=a");
        x.time(9, false, 7);
        x.press(0, true);
        DOC.is("settle()", x.settle(), 7);
        DOC.says(CHANGE);
        DOC.isChange(DocumentPromisesTest::busyRoom, y -> y.time(0, true, 9), y -> y.time(9, false, 2));
        DOC.says("- `isDrop`: whether it is the time to drop, otherwise that to pick up");
        x.time(3, true, 8);
        DOC.is("the time to drop", x.relay(3, 7), 8);
        DOC.is("the other one", x.relay(3, 6), 2);
        x.time(3, false, 5);
        DOC.is("the time to pick up", x.relay(3, 6), 5);
        DOC.is("the other one", x.relay(3, 7), 8);
        DOC.says("- `ticks`: 1 to 9");
        for (int ticks = 1; ticks <= 9; ticks++) {
            x.time(0, false, ticks);
            DOC.is("time " + ticks, x.relay(0, 6), ticks);
        }
        DOC.says("Returns the previous one; NO_SUCH if there is no such relay; BAD_VALUE if ticks is out of range.");
        DOC.is("time(0, false, 4)", x.time(0, false, 4), 9);
        DOC.is("time(0, true, 4)", x.time(0, true, 4), 1);
        DOC.is("time(0, false, 4)", x.time(0, false, 4), 4);
        for (int relay : NO_RELAYS) {
            DOC.is("time(" + relay + ", true, 0)", x.time(relay, true, 0), Due.NO_SUCH);
        }
        for (int ticks : new int[] {LEAST, -1, 0, 10, MOST}) {
            DOC.is("time(0, true, " + ticks + ")", x.time(0, true, ticks), Due.BAD_VALUE);
        }
    }

    private static void life() {
        DOC.heading("## Promise 3: life");
        DOC.says("`int life(int operations)`: Changes LIFE (no relay is welded by that at once).");
        WeldedRelays x = Due.room("A=a");
        x.press(0, true);
        x.settle();
        x.life(1);
        DOC.is("count(7)", x.count(7), 1);
        DOC.is("count(2)", x.count(2), 0);
        x.press(0, false);
        DOC.is("it drops", x.settle(), 1);
        DOC.says(CHANGE);
        DOC.isChange(DocumentPromisesTest::busyRoom, y -> y.life(1), y -> y.life(0));
        DOC.says("- `operations`: 0 to 99");
        for (int operations = 0; operations <= 99; operations++) {
            x.life(operations);
            DOC.is("life " + operations, x.count(7), operations);
        }
        DOC.says("Returns the previous value; BAD_VALUE if operations is out of range.");
        DOC.is("life(42)", x.life(42), 99);
        DOC.is("life(42)", x.life(42), 42);
        for (int operations : new int[] {LEAST, -1, 100, MOST}) {
            DOC.is("life(" + operations + ")", x.life(operations), Due.BAD_VALUE);
        }
    }

    private static void read() {
        DOC.heading("## Promise 4: read");
        DOC.says("`int read()`: Takes the circuits of the pad, each in place of the one of its relay (of several of "
                + "one relay the last one), and empties the pad.");
        WeldedRelays x = Due.room("A=a+b;B=a");
        Due.read(x, "A=c;C=a+b+c;C=!d");
        DOC.is("the one of A", x.relay(0, 8) * 100 + x.branch(0, 0, 4), 100 + Due.buttons("c"));
        DOC.is("the last one of C", x.relay(2, 8) * 100 + x.branch(2, 0, 5), 100 + Due.buttons("d"));
        DOC.is("the pad", x.count(10), 0);
        DOC.says("All else stays.");
        DOC.is("the one of B", x.relay(1, 8) * 100 + x.branch(1, 0, 4), 100 + Due.buttons("a"));
        WeldedRelays y = busyRoom();
        makeOtherwise(y);
        String before = Look.state(y);
        Due.read(y, "A=a;B=aa+b!b;C=c;D=d;J=!c");
        DOC.is("the state", Look.state(y).equals(before) ? 1 : 0, 1);
        DOC.says(CHANGE);
        DOC.isChange(DocumentPromisesTest::busyRoom, z -> Due.read(z, "A=0;B=!c"), z -> Due.read(z, "J=c"));
        DOC.says("Returns how many relays have branches then; BAD_TEXT if the pad has a fault.");
        WeldedRelays z = new WeldedRelays();
        DOC.is("two", Due.read(z, "A=a;J=a"), 2);
        DOC.is("three", Due.read(z, "B=a+b;A=b"), 3);
        DOC.is("one", Due.read(z, "A=0;J=0;J=0"), 1);
        DOC.is("none", Due.read(z, "B=0"), 0);
        for (String text : new String[] {"", "A", "A=a;", "A=a;k", "A=a+", "A=aaaaaaaaa"}) {
            WeldedRelays bad = new WeldedRelays();
            DOC.is("read() of " + text, Due.read(bad, text), Due.BAD_TEXT);
            DOC.is("none of " + text, bad.count(8), 0);
        }
    }

    private static void press() {
        DOC.heading("## Promise 5: press");
        DOC.says("`int press(int button, boolean isOn)`: Turns a button on, or off.");
        WeldedRelays x = Due.room("A=a;B=!a;C=f");
        x.press(0, true);
        DOC.is("a", x.count(4), 1);
        x.press(5, true);
        DOC.is("a and f", x.count(4), 33);
        x.press(0, false);
        DOC.is("f", x.count(4), 32);
        DOC.says(CHANGE);
        DOC.isChange(DocumentPromisesTest::busyRoom, y -> y.press(1, true), y -> y.press(5, true));
        DOC.says("Returns the relays that want to move then, as a set; NO_SUCH if there is no such button; "
                + "NOT_POSSIBLE if it is so already.");
        x.settle();
        DOC.is("press(0, true)", x.press(0, true), Due.relays("AB"));
        DOC.is("press(5, false)", x.press(5, false), Due.relays("ABC"));
        DOC.is("press(0, false)", x.press(0, false), Due.relays("C"));
        DOC.is("press(1, true)", x.press(1, true), Due.relays("C"));
        for (int button : new int[] {LEAST, -1, 6, MOST}) {
            DOC.is("press(" + button + ", false)", x.press(button, false), Due.NO_SUCH);
            DOC.is("press(" + button + ", true)", x.press(button, true), Due.NO_SUCH);
        }
        for (int button = 0; button < 6; button++) {
            DOC.is("as it is", x.press(button, button == 1), Due.NOT_POSSIBLE);
        }
    }

    private static void weld() {
        DOC.heading("## Promise 6: weld");
        DOC.says("`int weld(int relay, boolean isWelded)`: Welds a relay that is up, or mends one that is welded (it "
                + "has no operations then).");
        WeldedRelays x = busyRoom();
        x.weld(0, true);
        DOC.is("welded", x.count(2), 1);
        DOC.is("it stays up", x.rest(2, 0), 3);
        x.weld(0, false);
        DOC.is("mended", x.count(2), 0);
        DOC.is("no operations", x.relay(0, 5), 0);
        DOC.is("it is up still", x.count(0), 1);
        DOC.is("it drops", x.rest(2, 0), 0);
        DOC.says(CHANGE);
        DOC.isChange(DocumentPromisesTest::busyRoom, y -> y.weld(0, true));
        DOC.isChange(DocumentPromisesTest::roomWithWeld, y -> y.weld(0, false));
        DOC.says("Returns its operations ahead of that; NO_SUCH if there is no such relay; NOT_POSSIBLE if it is so "
                + "already, or it is to be welded and is down.");
        WeldedRelays y = Due.room("A=!A");
        y.pass(8);
        DOC.is("weld(0, true)", y.weld(0, true), 3);
        DOC.is("weld(0, true)", y.weld(0, true), Due.NOT_POSSIBLE);
        DOC.is("weld(0, false)", y.weld(0, false), 3);
        DOC.is("weld(0, false)", y.weld(0, false), Due.NOT_POSSIBLE);
        DOC.is("weld(0, true)", y.weld(0, true), 0);
        DOC.is("weld(1, true)", y.weld(1, true), Due.NOT_POSSIBLE);
        DOC.is("weld(1, false)", y.weld(1, false), Due.NOT_POSSIBLE);
        for (int relay : NO_RELAYS) {
            DOC.is("weld(" + relay + ", true)", y.weld(relay, true), Due.NO_SUCH);
            DOC.is("weld(" + relay + ", false)", y.weld(relay, false), Due.NO_SUCH);
        }
    }

    private static WeldedRelays roomWithWeld() {
        WeldedRelays x = busyRoom();
        x.weld(0, true);
        return x;
    }

    private static void pass() {
        DOC.heading("## Promise 7: pass");
        DOC.says("`int pass(int ticks)`: Lets ticks pass.");
        WeldedRelays x = Due.room("A=!A");
        x.pass(2);
        DOC.is("count(5)", x.count(5), 2);
        DOC.is("count(0)", x.count(0), 1);
        x.pass(1);
        DOC.is("count(0)", x.count(0), 0);
        WeldedRelays atRest = new WeldedRelays();
        atRest.pass(7);
        DOC.is("also at rest", atRest.count(5), 7);
        DOC.says(CHANGE);
        DOC.isChange(DocumentPromisesTest::busyRoom, y -> y.pass(1), y -> y.pass(200));
        DOC.isChange(WeldedRelays::new, y -> y.pass(1));
        DOC.says("- `ticks`: 1 to 200");
        int passed = 3;
        for (int ticks = 1; ticks <= 200; ticks++) {
            x.pass(ticks);
            passed += ticks;
            DOC.is("pass(" + ticks + ")", x.count(5), passed);
        }
        DOC.says("Returns how often relays move in them; BAD_VALUE if ticks is out of range.");
        WeldedRelays y = Due.room("A=!A;B=!B;C=a");
        DOC.is("pass(1)", y.pass(1), 0);
        DOC.is("pass(1)", y.pass(1), 2);
        DOC.is("pass(1)", y.pass(1), 2);
        y.press(0, true);
        DOC.is("pass(6)", y.pass(6), 9);
        for (int ticks : new int[] {LEAST, -1, 0, 201, MOST}) {
            DOC.is("pass(" + ticks + ")", y.pass(ticks), Due.BAD_VALUE);
        }
    }

    private static void settle() {
        DOC.heading("## Promise 8: settle");
        DOC.says("`int settle()`: Lets ticks pass until the room is at rest, but at most 200.");
        WeldedRelays x = Due.room("A=a;B=A;C=c!C");
        x.press(0, true);
        x.settle();
        DOC.is("count(5)", x.count(5), 4);
        DOC.is("count(0)", x.count(0), 3);
        x.press(2, true);
        x.settle();
        DOC.is("count(5)", x.count(5), 204);
        DOC.says(CHANGE);
        DOC.isChange(DocumentPromisesTest::busyRoom, y -> y.settle());
        DOC.isChange(WeldedRelays::new, y -> y.settle());
        DOC.says("Returns how many pass, and 1000 more if it is not at rest then.");
        DOC.is("0", new WeldedRelays().settle(), 0);
        DOC.is("1", busyRoom().settle(), 1);
        DOC.is("199", Due.wearsOut(1, 2, 67).settle(), 199);
        DOC.is("200", Due.wearsOut(2, 1, 67).settle(), 200);
        DOC.is("201", Due.wearsOut(1, 4, 41).settle(), 1200);
        DOC.is("never", x.settle(), 1200);
    }

    private static void relay() {
        DOC.heading("## Promise 9: relay");
        DOC.says("`int relay(int relay, int what)`: Returns something about a relay.");
        WeldedRelays x = Due.room("A=a+bA;B=!A!a;C=!A!C+b;D=A+c");
        x.press(0, true);
        x.settle();
        x.time(0, true, 9);
        x.time(3, true, 7);
        x.press(0, false);
        x.pass(3);
        x.weld(3, true);
        DOC.is("relay(0, 0)", x.relay(0, 0), 1);
        DOC.is("relay(1, 0)", x.relay(1, 0), 0);
        DOC.says("- `what`: 0 whether it is up, 1 whether it is fed, 2 whether it is welded, 3 whether it wants to "
                + "move (each 1 or 0), 4 its wait, 5 its operations, 6 its time to pick up, 7 its time to drop, 8 its "
                + "branches, 9 whether it could hold itself: a branch has a front contact of it (1 or 0), 10 the "
                + "relays whose circuits have a contact of it, as a set");
        int[][] wants = {
            {1, 0, 0, 1, 3, 1, 2, 9, 2, 1, Due.relays("ABCD")}, {0, 0, 0, 0, 0, 0, 2, 1, 1, 0, 0},
            {0, 0, 0, 0, 0, 1, 2, 1, 2, 0, Due.relays("C")}, {1, 1, 1, 0, 0, 1, 2, 7, 2, 0, 0},
            {0, 0, 0, 0, 0, 0, 2, 1, 0, 0, 0},
        };
        for (int relay = 0; relay < wants.length; relay++) {
            for (int what = 0; what <= 10; what++) {
                DOC.is("relay(" + relay + ", " + what + ")", x.relay(relay, what), wants[relay][what]);
            }
        }
        DOC.says("Returns the number; NO_SUCH if there is no such relay; BAD_VALUE if what is out of range.");
        for (int relay : NO_RELAYS) {
            DOC.is("relay(" + relay + ", 11)", x.relay(relay, 11), Due.NO_SUCH);
        }
        for (int what : new int[] {LEAST, -1, 11, MOST}) {
            DOC.is("relay(9, " + what + ")", x.relay(9, what), Due.BAD_VALUE);
        }
    }

    private static void branch() {
        DOC.heading("## Promise 10: branch");
        DOC.says("`int branch(int relay, int branch, int what)`: Returns something about a branch of a circuit.");
        WeldedRelays x = Due.room("J=a!bAA!I+!c!c!d!EFf");
        DOC.is("branch(9, 0, 2)", x.branch(9, 0, 2), Due.relays("A"));
        DOC.is("branch(9, 1, 2)", x.branch(9, 1, 2), Due.relays("F"));
        DOC.says("- `what`: 0 whether it is closed (1 or 0), 1 how many contacts it has (each one that is told), 2 the "
                + "relays of front contacts, 3 those of back contacts, 4 the buttons of front contacts, 5 those of "
                + "back contacts, as sets");
        int[][] wants = {
            {0, 5, Due.relays("A"), Due.relays("I"), Due.buttons("a"), Due.buttons("b")},
            {0, 6, Due.relays("F"), Due.relays("E"), Due.buttons("f"), Due.buttons("cd")},
        };
        for (int branch = 0; branch < 2; branch++) {
            for (int what = 0; what <= 5; what++) {
                DOC.is("branch(9, " + branch + ", " + what + ")", x.branch(9, branch, what), wants[branch][what]);
            }
        }
        Due.read(x, "A=a;F=f");
        x.press(0, true);
        DOC.is("A is down", x.branch(9, 0, 0), 0);
        x.settle();
        DOC.is("closed", x.branch(9, 0, 0), 1);
        x.press(1, true);
        DOC.is("b is on", x.branch(9, 0, 0), 0);
        DOC.says("Returns the number; NO_SUCH if there is no such relay or branch; BAD_VALUE if what is out of range.");
        for (int relay : NO_RELAYS) {
            DOC.is("branch(" + relay + ", 0, 6)", x.branch(relay, 0, 6), Due.NO_SUCH);
        }
        for (int branch : new int[] {LEAST, -1, 2, MOST}) {
            DOC.is("branch(9, " + branch + ", 6)", x.branch(9, branch, 6), Due.NO_SUCH);
        }
        for (int what : new int[] {LEAST, -1, 6, MOST}) {
            DOC.is("branch(9, 1, " + what + ")", x.branch(9, 1, what), Due.BAD_VALUE);
        }
    }

    private static void count() {
        DOC.heading("## Promise 11: count");
        DOC.says("`int count(int what)`: Returns a number.");
        WeldedRelays x = Due.room("A=a;B=a;C=!a+c!cA;D=A!B!A+B!B;E=C");
        DOC.is("count(8)", x.count(8), 5);
        DOC.says("- `what`: 0 the relays that are up, 1 those that are fed, 2 those that are welded, 3 those that want "
                + "to move, 4 the buttons that are on (each as a set), 5 ticks so far, 6 how often relays moved so "
                + "far, 7 LIFE, 8 relays with branches, 9 branches that can never be closed, as they have a front and "
                + "a back contact of the same relay or button, 10 the length of the pad, 11 how many changes can be "
                + "undone");
        x.press(0, true);
        x.settle();
        x.life(9);
        x.weld(1, true);
        x.press(0, false);
        Due.put(x, "nonsense");
        counts(x, Due.relays("AB"), Due.relays("C"), Due.relays("B"), Due.relays("AC"), 0, 2, 2, 9, 5, 3, 8, 6);
        x.settle();
        x.undo();
        x.pass(3);
        x.press(5, true);
        x.wipe();
        counts(x, Due.relays("BC"), Due.relays("CE"), Due.relays("B"), Due.relays("E"), 32, 5, 4, 9, 5, 3, 0, 6);
        DOC.says("Returns the number; BAD_VALUE if what is out of range.");
        for (int what : new int[] {LEAST, -1, 12, MOST}) {
            DOC.is("count(" + what + ")", x.count(what), Due.BAD_VALUE);
        }
    }

    private static void counts(WeldedRelays x, int... wants) {
        for (int what = 0; what < wants.length; what++) {
            DOC.is("count(" + what + ")", x.count(what), wants[what]);
        }
    }

    private static void ifPressed() {
        DOC.heading("## Promise 12: ifPressed");
        DOC.says("`int ifPressed(int buttons, int ticks)`: Tells which relays would be up behind some ticks, if the "
                + "buttons of a set were on, and the others off.");
        WeldedRelays x = Due.room("A=a;B=b;C=A!b");
        x.press(1, true);
        x.settle();
        DOC.is("ifPressed(1, 1)", x.ifPressed(1, 1), 0);
        DOC.is("ifPressed(1, 2)", x.ifPressed(1, 2), Due.relays("A"));
        DOC.is("ifPressed(1, 4)", x.ifPressed(1, 4), Due.relays("AC"));
        DOC.is("ifPressed(3, 4)", x.ifPressed(3, 4), Due.relays("AB"));
        DOC.says(BUTTON_SETS);
        WeldedRelays y = Due.room("A=a;B=b;C=c;D=d;E=e;F=f");
        for (int buttons = 0; buttons <= 63; buttons++) {
            DOC.is("ifPressed(" + buttons + ", 2)", y.ifPressed(buttons, 2), buttons);
        }
        DOC.says("- `ticks`: 0 to 200");
        WeldedRelays z = Due.room("A=!A");
        for (int ticks = 0; ticks <= 200; ticks++) {
            DOC.is("ifPressed(0, " + ticks + ")", z.ifPressed(0, ticks), ticks % 3 == 2 ? 1 : 0);
        }
        DOC.says("Returns the relays, as a set; BAD_VALUE if an argument is out of range.");
        DOC.is("ifPressed(32, 2)", y.ifPressed(32, 2), Due.relays("F"));
        for (int buttons : NO_BUTTON_SETS) {
            DOC.is("ifPressed(" + buttons + ", 2)", y.ifPressed(buttons, 2), Due.BAD_VALUE);
        }
        for (int ticks : new int[] {LEAST, -1, 201, MOST}) {
            DOC.is("ifPressed(1, " + ticks + ")", y.ifPressed(1, ticks), Due.BAD_VALUE);
        }
    }

    private static void rest() {
        DOC.heading("## Promise 13: rest");
        DOC.says("`int rest(int buttons, int what)`: Tells about coming to rest, if the buttons of a set were on, and "
                + "the others off.");
        WeldedRelays x = Due.room("A=a;B=A;C=A!B;D=c!D");
        x.press(1, true);
        DOC.is("rest(1, 0)", x.rest(1, 0), Due.relays("AB"));
        x.press(2, true);
        DOC.is("rest(1, 0)", x.rest(1, 0), Due.relays("AB"));
        DOC.says(BUTTON_SETS);
        WeldedRelays y = Due.room("A=a;B=b;C=c;D=d;E=e;F=f");
        for (int buttons = 0; buttons <= 63; buttons++) {
            DOC.is("rest(" + buttons + ", 0)", y.rest(buttons, 0), buttons);
        }
        DOC.says("- `what`: 0 the relays that are up then, 1 behind how many ticks, "
                + "2 how often relays move until then");
        int[][] wants = {{0, 0, 0}, {Due.relays("AB"), 5, 4}};
        for (int buttons = 0; buttons <= 1; buttons++) {
            for (int what = 0; what <= 2; what++) {
                DOC.is("rest(" + buttons + ", " + what + ")", x.rest(buttons, what), wants[buttons][what]);
            }
        }
        DOC.says("Returns the number; BAD_VALUE if an argument is out of range; "
                + "NONE if the room does not come to rest.");
        for (int buttons : NO_BUTTON_SETS) {
            DOC.is("rest(" + buttons + ", 0)", x.rest(buttons, 0), Due.BAD_VALUE);
        }
        for (int what : new int[] {LEAST, -1, 3, MOST}) {
            DOC.is("rest(4, " + what + ")", x.rest(4, what), Due.BAD_VALUE);
        }
        for (int what = 0; what <= 2; what++) {
            DOC.is("rest(4, " + what + ")", x.rest(4, what), Due.NONE);
        }
    }

    private static void race() {
        DOC.heading("## Promise 14: race");
        DOC.says("`int race(int buttons)`: Tells whether there is a race: whether the room, if the buttons of a set "
                + "were on, and the others off, would come to rest with other relays up if all times of all relays "
                + "were 1, or would come to rest in one of both cases alone.");
        WeldedRelays x = Due.room("A=a!B;B=a;C=A+C;D=b!E;E=b!D;F=c!F");
        DOC.is("the same relays", x.race(0), 0);
        DOC.is("C is up if all times are 1 alone", x.race(1), 1);
        DOC.is("never at rest", x.race(2), 0);
        DOC.is("never at rest", x.race(4), 0);
        x.press(0, true);
        DOC.is("the others off", x.race(0), 0);
        x.time(0, false, 1);
        x.time(2, false, 3);
        DOC.is("A is up for two ticks, C is late", x.race(1), 1);
        x.time(2, false, 2);
        DOC.is("C is up in both cases", x.race(1), 0);
        x.time(3, false, 1);
        DOC.is("at rest with its own times alone", x.race(2), 1);
        WeldedRelays slow = Due.room("B=b;C=B;A=!A!C");
        slow.time(0, true, 9);
        slow.life(60);
        DOC.is("at rest if all times are 1 alone", slow.race(0), 1);
        DOC.says(BUTTON_SETS);
        for (int buttons = 0; buttons <= 63; buttons++) {
            WeldedRelays y = Due.room("A=ab!c!def!B;B=ab!c!def;C=A+C");
            DOC.is("race(" + buttons + ")", y.race(buttons), buttons == Due.buttons("abef") ? 1 : 0);
        }
        DOC.says("Returns 1 or 0; BAD_VALUE if buttons is out of range.");
        for (int buttons : NO_BUTTON_SETS) {
            DOC.is("race(" + buttons + ")", x.race(buttons), Due.BAD_VALUE);
        }
    }

    private static void ifWelded() {
        DOC.heading("## Promise 15: ifWelded");
        DOC.says("`int ifWelded(int relay, int welded)`: Tells whether a relay is up when the room has come to rest "
                + "with all buttons off, if another one was up and welded from now on.");
        WeldedRelays x = Due.room("A=a;B=A;C=!B;D=d");
        x.press(0, true);
        x.press(3, true);
        x.settle();
        DOC.is("A is off", x.ifWelded(0, 3), 0);
        DOC.is("B by A", x.ifWelded(1, 0), 1);
        DOC.is("C by A", x.ifWelded(2, 0), 0);
        DOC.is("C by B", x.ifWelded(2, 1), 0);
        DOC.is("C by D", x.ifWelded(2, 3), 1);
        DOC.is("D by A", x.ifWelded(3, 0), 0);
        DOC.says("Returns 1 or 0; NO_SUCH if there is no such relay; BAD_VALUE if both are the same; NONE if the room "
                + "does not come to rest.");
        for (int relay : NO_RELAYS) {
            DOC.is("ifWelded(" + relay + ", 0)", x.ifWelded(relay, 0), Due.NO_SUCH);
            DOC.is("ifWelded(0, " + relay + ")", x.ifWelded(0, relay), Due.NO_SUCH);
            DOC.is("ifWelded() of both", x.ifWelded(relay, relay), Due.NO_SUCH);
        }
        Due.read(x, "J=!J!I");
        for (int relay = 0; relay < 10; relay++) {
            DOC.is("ifWelded() of the same", x.ifWelded(relay, relay), Due.BAD_VALUE);
            DOC.is("ifWelded(" + relay + ", 5)", x.ifWelded(relay, relay == 5 ? 6 : 5), Due.NONE);
        }
        DOC.is("ifWelded(2, 8)", x.ifWelded(2, 8), 1);
        DOC.is("ifWelded(2, 9)", x.ifWelded(2, 9), 1);
    }

    private static void unsafe() {
        DOC.heading("## Promise 16: unsafe");
        DOC.says("`int unsafe(int relay)`: Tells by which other relays a relay is up by ifWelded().");
        WeldedRelays x = Due.room("A=B+C!D;B=a;C=D;D=A!D;E=!A");
        for (int relay = 0; relay < 10; relay++) {
            int set = 0;
            for (int other = 0; other < 10; other++) {
                set |= x.ifWelded(relay, other) == 1 ? 1 << other : 0;
            }
            DOC.is("unsafe(" + relay + ")", x.unsafe(relay), set);
        }
        DOC.says("Returns these relays, as a set; NO_SUCH if there is no such relay.");
        WeldedRelays y = Due.room("A=B+C;C=J;D=D;E=!B");
        int[] wants = {Due.relays("BCJ"), 0, Due.relays("J"), 0, 1023 - Due.relays("BE"), 0, 0, 0, 0, 0};
        for (int relay = 0; relay < 10; relay++) {
            DOC.is("unsafe(" + relay + ")", y.unsafe(relay), wants[relay]);
        }
        for (int relay : NO_RELAYS) {
            DOC.is("unsafe(" + relay + ")", y.unsafe(relay), Due.NO_SUCH);
        }
    }

    private static void reach() {
        DOC.heading("## Promise 17: reach");
        DOC.says("`int reach(int relay)`: Finds the set of buttons with the fewest of them with which a relay is up "
                + "when the room has come to rest from how it is; of several the one with the least number.");
        WeldedRelays x = Due.room("A=ab+f+e;B=cd+bd+A;C=aC+f!c;D=!a;E=ab!E+bc+ae;F=f+bF");
        String[] wants = {"e", "e", "f", "", "bc", "f"};
        for (int relay = 0; relay < wants.length; relay++) {
            DOC.is("reach(" + relay + ")", x.reach(relay), Due.buttons(wants[relay]));
        }
        x.press(5, true);
        x.settle();
        DOC.is("reach(2) from how it is", x.reach(2), Due.buttons("a"));
        DOC.is("reach(5) from how it is", x.reach(5), Due.buttons("b"));
        DOC.says("Returns the buttons, as a set; NO_SUCH if there is no such relay; NONE if there is none.");
        WeldedRelays y = Due.room("A=f;B=0;C=c!c;D=D;E=e!E;F=abcdef");
        int[] answers = {32, Due.NONE, Due.NONE, Due.NONE, Due.NONE, Due.NONE, Due.NONE};
        for (int relay = 0; relay < answers.length; relay++) {
            DOC.is("reach(" + relay + ")", y.reach(relay), answers[relay]);
        }
        for (int relay : NO_RELAYS) {
            DOC.is("reach(" + relay + ")", y.reach(relay), Due.NO_SUCH);
        }
    }

    private static void put() {
        DOC.heading("## Promise 18: put");
        DOC.says("`int put(long characters)`: Appends characters to the pad.");
        WeldedRelays x = new WeldedRelays();
        x.put(0x413D61);
        x.put(0x3B423D);
        x.put(0x2162);
        DOC.is("read() of A=a;B=!b", x.read(), 2);
        DOC.is("branch(1, 0, 5)", x.branch(1, 0, 5), Due.buttons("b"));
        DOC.says("They are given as a number: its lowest 8 bits are the last character, the next 8 bits the one "
                + "before, and so on; 8 bits that are 0 mean that there are no more characters, and everything above "
                + "them has to be 0, too.");
        DOC.is("put() of A=abcdef", x.put('A' * (1L << 56) + '=' * (1L << 48) + 0x616263646566L), 8);
        DOC.is("read()", x.read(), 2);
        DOC.is("branch(0, 0, 4)", x.branch(0, 0, 4), 63);
        DOC.is("no more characters", x.put(0x0000000000413D30L), 3);
        DOC.is("read() of A=0", x.read(), 1);
        for (int bit = 8; bit < 64; bit++) {
            DOC.is("bit " + bit + " above them", x.put(1L << bit), Due.BAD_VALUE);
        }
        DOC.says("- `characters`: 1 to 8 characters");
        for (int count = 1; count <= 8; count++) {
            x.wipe();
            DOC.is(count + " characters", x.put(Due.packed("A=abcdef".substring(0, count))), count);
        }
        DOC.says("Returns the length of the pad then; BAD_VALUE if there is no character, a code is not 33 to 126, or "
                + "a bit above 8 bits that are 0 is not 0; TOO_MANY if the pad would be longer than 64.");
        x.wipe();
        for (int length = 7; length <= 63; length += 7) {
            DOC.is("put()", x.put(Due.packed("!\"#$%~}")), length);
        }
        long[] bads = {0, -1, 32, 127, 255, 0x4120, 0x2041, 0x410041, 0x4100000000000041L, 0x7F41414141414141L};
        for (long bad : bads) {
            DOC.is("put(" + bad + ")", x.put(bad), Due.BAD_VALUE);
        }
        DOC.is("two more", x.put(Due.packed("AA")), Due.TOO_MANY);
        DOC.is("one more", x.put('A'), 64);
        DOC.is("one more", x.put('A'), Due.TOO_MANY);
    }

    private static void wipe() {
        DOC.heading("## Promise 19: wipe");
        DOC.says("`int wipe()`: Empties the pad, and returns the length that it had.");
        WeldedRelays x = new WeldedRelays();
        DOC.is("wipe()", x.wipe(), 0);
        Due.put(x, "A=a;B=b;C");
        DOC.is("wipe()", x.wipe(), 9);
        DOC.is("count(10)", x.count(10), 0);
        DOC.is("wipe()", x.wipe(), 0);
        DOC.is("read() of C=c", Due.read(x, "C=c"), 1);
        Due.put(x, "A=a;".repeat(16));
        DOC.is("wipe()", x.wipe(), 64);
    }

    private static void fault() {
        DOC.heading("## Promise 20: fault");
        DOC.says("`int fault()`: Returns the fault of the pad, NONE if there is none.");
        WeldedRelays x = new WeldedRelays();
        String text = "A=a!B+c;J=0";
        int[] wants = {0, 1, 2, Due.NONE, 4, Due.NONE, 6, Due.NONE, 8, 9, 10, Due.NONE};
        for (int length = 0; length <= text.length(); length++) {
            DOC.is("fault() of " + text.substring(0, length), x.fault(), wants[length]);
            DOC.is("the pad stays", x.count(10), length);
            x.put(length < text.length() ? text.charAt(length) : '0');
        }
        DOC.is("fault() of " + text + "0", x.fault(), text.length());
        x.put('A');
        DOC.is("the first one", x.fault(), text.length());
    }

    private static void undo() {
        DOC.heading("## Promise 21: undo");
        DOC.says("`int undo()`: Undoes the latest change: everything except the pad, the slots and the history is as "
                + "it was before it.");
        WeldedRelays x = busyRoom();
        x.save(0);
        makeOtherwise(x);
        String before = Look.state(x);
        x.restore(0);
        x.pass(50);
        x.save(1);
        Due.put(x, "J=j");
        x.undo();
        x.undo();
        DOC.is("the state", Look.state(x).equals(before) ? 1 : 0, 1);
        DOC.is("the pad", x.wipe(), 3);
        x.restore(1);
        DOC.is("slot 1", x.count(5), 53);
        x.restore(0);
        DOC.is("slot 0", x.count(5), 3);
        x.undo();
        x.undo();
        DOC.is("the state again", Look.state(x).equals(before) ? 1 : 0, 1);
        DOC.says("A history of at most 6 states is kept: each method that is a change, and returns no error, records "
                + "the state before it (also if nothing is different then); when one more is recorded, the oldest one "
                + "is dropped.");
        WeldedRelays y = new WeldedRelays();
        for (int life = 1; life <= 9; life++) {
            y.life(life);
            y.life(100);
            DOC.is("count(11)", y.count(11), Math.min(6, life));
        }
        y.life(9);
        for (int life = 9; life >= 4; life--) {
            y.undo();
            DOC.is("count(7)", y.count(7), life);
        }
        DOC.is("count(11)", y.count(11), 0);
        y.settle();
        y.time(0, false, 2);
        Due.read(y, "A=0");
        y.restore(0);
        DOC.is("nothing is different, and an error", y.count(11), 3);
        DOC.says("Returns how many changes can be undone then; NOT_POSSIBLE if there is none.");
        for (int left = 2; left >= 0; left--) {
            DOC.is("undo()", y.undo(), left);
        }
        DOC.is("undo()", y.undo(), Due.NOT_POSSIBLE);
        DOC.is("undo()", new WeldedRelays().undo(), Due.NOT_POSSIBLE);
    }

    private static void save() {
        DOC.heading("## Promise 22: save");
        DOC.says("`int save(int slot)`: Saves everything except the pad, the history and the slots in a slot, and "
                + "overwrites what was saved there.");
        WeldedRelays x = busyRoom();
        x.save(0);
        DOC.is("no change", x.count(11), 4);
        makeOtherwise(x);
        Due.put(x, "A=b");
        String saved = Look.state(x);
        x.save(1);
        x.save(0);
        DOC.is("the pad stays", x.wipe(), 3);
        Due.read(x, "A=0;B=0;D=!a+b");
        x.time(9, true, 2);
        x.press(0, true);
        x.weld(9, false);
        x.settle();
        Due.put(x, "C=c;");
        x.restore(0);
        DOC.is("everything", Look.state(x).equals(saved) ? 1 : 0, 1);
        DOC.is("except the pad", x.count(10), 4);
        DOC.is("except the history", x.undo(), 5);
        x.restore(1);
        DOC.is("except the slots", Look.state(x).equals(saved) ? 1 : 0, 1);
        DOC.says(SLOTS);
        for (int slot = 0; slot <= 1; slot++) {
            x.life(slot + 10);
            x.save(slot);
        }
        for (int slot = 0; slot <= 1; slot++) {
            x.restore(slot);
            DOC.is("slot " + slot, x.count(7), slot + 10);
        }
        DOC.says("Returns the relays that are up, as a set; BAD_VALUE if there is no such slot.");
        WeldedRelays y = Due.room("A=a;B=!a;J=a");
        y.settle();
        DOC.is("save(0)", y.save(0), Due.relays("B"));
        y.press(0, true);
        DOC.is("save(1)", y.save(1), Due.relays("B"));
        y.settle();
        DOC.is("save(0)", y.save(0), Due.relays("AJ"));
        for (int slot : new int[] {LEAST, -1, 2, MOST}) {
            DOC.is("save(" + slot + ")", y.save(slot), Due.BAD_VALUE);
        }
    }

    private static void restore() {
        DOC.heading("## Promise 23: restore");
        DOC.says("`int restore(int slot)`: Restores what was saved last in a slot, which keeps it.");
        WeldedRelays x = busyRoom();
        x.save(1);
        x.pass(1);
        String saved = Look.state(x);
        x.save(1);
        for (int times = 1; times <= 3; times++) {
            makeOtherwise(x);
            x.restore(1);
            DOC.is("restore() " + times, Look.state(x).equals(saved) ? 1 : 0, 1);
        }
        DOC.says(CHANGE);
        DOC.isChange(DocumentPromisesTest::roomWithSlots, y -> y.restore(0), y -> y.restore(1));
        DOC.says(SLOTS);
        WeldedRelays y = roomWithSlots();
        y.restore(0);
        DOC.is("slot 0", y.count(5), 3);
        y.restore(1);
        DOC.is("slot 1", y.count(5), 4);
        DOC.says("Returns the relays that are up then, as a set; BAD_VALUE if there is no such slot; NOT_POSSIBLE if "
                + "nothing was saved in it.");
        DOC.is("restore(0)", y.restore(0), Due.relays("A"));
        DOC.is("restore(1)", y.restore(1), Due.relays("AB"));
        for (int slot : new int[] {LEAST, -1, 2, MOST}) {
            DOC.is("restore(" + slot + ")", y.restore(slot), Due.BAD_VALUE);
        }
        for (int slot = 0; slot <= 1; slot++) {
            WeldedRelays z = new WeldedRelays();
            z.save(1 - slot);
            DOC.is("restore(" + slot + ")", z.restore(slot), Due.NOT_POSSIBLE);
        }
    }

    private static WeldedRelays roomWithSlots() {
        WeldedRelays x = busyRoom();
        x.save(0);
        x.pass(1);
        x.save(1);
        x.press(1, true);
        x.settle();
        return x;
    }

    private static void notPromised() {
        DOC.heading("## Not promised");
        DOC.leavesFree("How the state is held inside the object is free, as are the speed of each call, the text of "
                + "toString and the behaviour of equals and hashCode.");
        DOC.leavesFree("Use of one object from several threads at once is not promised to be safe.");
        DOC.leavesFree("Nothing is promised beyond the answers and state changes described above, and nothing about an "
                + "object after its 512th call.");
    }
}
