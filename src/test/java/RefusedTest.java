/**
 * "A method that fails returns one of the error codes .. it names its errors in the order in which they
 * are checked, and the first one that applies is returned. A call that returns an error changes nothing."
 */
public final class RefusedTest {
    private static final int LEAST = Integer.MIN_VALUE, MOST = Integer.MAX_VALUE;
    // 32 more than a number in the range, as a shift by it would be the same.
    private static final int[] NO_RELAYS = {LEAST, -1, 10, 16, 32, 41, MOST};
    private static final int[] NO_BUTTONS = {LEAST, -1, 6, 8, 32, 37, MOST};
    private static final int[] NO_BUTTON_SETS = {LEAST, -1, 64, 127, MOST};
    private static final boolean[] BOTH = {false, true};

    private final Due due;
    private final Twins twins;

    private RefusedTest(Due due, String name, Twins.Maker maker, String endOfText) {
        this.due = due;
        this.twins = new Twins(due, name, maker, endOfText);
    }

    public static void main(String[] args) {
        Due due = new Due("RefusedTest");
        RefusedTest fresh = new RefusedTest(due, "new room", WeldedRelays::new, "E=e");
        fresh.always();
        fresh.ofNewRoom();
        RefusedTest ordinary = new RefusedTest(due, "ordinary room", RefusedTest::ordinaryRoom, "=c");
        ordinary.always();
        ordinary.ofOrdinaryRoom();
        RefusedTest restless = new RefusedTest(due, "room without rest", RefusedTest::restlessRoom, "f");
        restless.always();
        restless.ofRestlessRoom();
        RefusedTest full = new RefusedTest(due, "full room", RefusedTest::fullRoom, "");
        full.always();
        full.ofFullRoom();
        due.end();
    }

    // ---- rooms

    /** A and J are up, B waits; a is on; three changes; slot 0 is taken; the pad ends too early. */
    private static WeldedRelays ordinaryRoom() {
        WeldedRelays x = Due.room("A=a+bA;B=A!b;J=a!d");
        x.save(0);
        x.press(0, true);
        x.pass(3);
        Due.put(x, "A=b;B");
        return x;
    }

    /** A never rests, whatever is pressed or welded; slot 1 is taken; the pad ends too early. */
    private static WeldedRelays restlessRoom() {
        WeldedRelays x = Due.room("A=!A+!A;B=C;C=!C");
        x.time(0, true, 9);
        x.time(1, false, 9);
        x.pass(7);
        x.save(1);
        Due.put(x, "F=!B+");
        return x;
    }

    /** All relays are up, A and J welded, all buttons on; pad, circuit of J, branch, history, slots full. */
    private static WeldedRelays fullRoom() {
        WeldedRelays x = Due.room("A=a;B=a;C=a;D=a;E=a;F=a;G=a;H=a;I=a;J=b+!b!b!b!c!c!c!c!d+c+d+e+f");
        x.life(99);
        x.save(1);
        for (int button = 0; button < 6; button++) {
            x.press(button, true);
        }
        x.settle();
        x.weld(0, true);
        x.weld(9, true);
        x.save(0);
        x.time(3, false, 9);
        Due.put(x, "A=a+b+c+d+e+f;B=!A!B!C!D!E!F!G!H;C=0;D=aaaaaaaa;E=f;F=e;A=b+!bbb");
        return x;
    }

    // ---- calls that no room takes

    private void always() {
        timeAndWeld();
        lifeAndPass();
        press();
        looks();
        ifPressedAndRest();
        raceAndOfRelay();
        put();
        slots();
    }

    /** "NO_SUCH if there is no such relay; BAD_VALUE if ticks is out of range." */
    private void timeAndWeld() {
        for (boolean is : BOTH) {
            for (int relay : NO_RELAYS) {
                refuses("time(" + relay + ", " + is + ", 1)", -1, x -> x.time(relay, is, 1));
                refuses("time(" + relay + ", " + is + ", 9)", -1, x -> x.time(relay, is, 9));
                refuses("time(" + relay + ", " + is + ", 0)", -1, x -> x.time(relay, is, 0));
                refuses("time(" + relay + ", " + is + ", 10)", -1, x -> x.time(relay, is, 10));
                refuses("weld(" + relay + ", " + is + ")", -1, x -> x.weld(relay, is));
            }
            for (int ticks : new int[] {LEAST, -1, 0, 10, 11, MOST}) {
                refuses("time(0, " + is + ", " + ticks + ")", -2, x -> x.time(0, is, ticks));
                refuses("time(9, " + is + ", " + ticks + ")", -2, x -> x.time(9, is, ticks));
            }
        }
    }

    /** "BAD_VALUE if operations is out of range", "BAD_VALUE if ticks is out of range" */
    private void lifeAndPass() {
        for (int operations : new int[] {LEAST, -1, 100, 101, MOST}) {
            refuses("life(" + operations + ")", -2, x -> x.life(operations));
        }
        for (int ticks : new int[] {LEAST, -1, 0, 201, 202, MOST}) {
            refuses("pass(" + ticks + ")", -2, x -> x.pass(ticks));
        }
    }

    /** "NO_SUCH if there is no such button; NOT_POSSIBLE if it is so already" */
    private void press() {
        for (int button : NO_BUTTONS) {
            refuses("press(" + button + ", false)", -1, x -> x.press(button, false));
            refuses("press(" + button + ", true)", -1, x -> x.press(button, true));
        }
    }

    /** "NO_SUCH if there is no such relay or branch; BAD_VALUE if what is out of range" */
    private void looks() {
        for (int relay : NO_RELAYS) {
            refuses("relay(" + relay + ", 0)", -1, x -> x.relay(relay, 0));
            refuses("relay(" + relay + ", -1)", -1, x -> x.relay(relay, -1));
            refuses("relay(" + relay + ", 11)", -1, x -> x.relay(relay, 11));
            refuses("branch(" + relay + ", 0, 0)", -1, x -> x.branch(relay, 0, 0));
            refuses("branch(" + relay + ", 6, 6)", -1, x -> x.branch(relay, 6, 6));
        }
        for (int branch : new int[] {LEAST, -1, 6, 7, 60, MOST}) {
            refuses("branch(0, " + branch + ", 0)", -1, x -> x.branch(0, branch, 0));
            refuses("branch(9, " + branch + ", 5)", -1, x -> x.branch(9, branch, 5));
            refuses("branch(9, " + branch + ", -1)", -1, x -> x.branch(9, branch, -1));
            refuses("branch(9, " + branch + ", 6)", -1, x -> x.branch(9, branch, 6));
        }
        for (int what : new int[] {LEAST, -1, 12, 13, MOST}) {
            refuses("relay(0, " + what + ")", -2, x -> x.relay(0, what));
            refuses("relay(9, " + what + ")", -2, x -> x.relay(9, what));
            refuses("count(" + what + ")", -2, x -> x.count(what));
        }
        refuses("relay(0, 11)", -2, x -> x.relay(0, 11));
        refuses("relay(9, 11)", -2, x -> x.relay(9, 11));
    }

    /** "BAD_VALUE if an argument is out of range; NONE if the room does not come to rest." */
    private void ifPressedAndRest() {
        for (int buttons : NO_BUTTON_SETS) {
            refuses("ifPressed(" + buttons + ", 0)", -2, x -> x.ifPressed(buttons, 0));
            refuses("ifPressed(" + buttons + ", 200)", -2, x -> x.ifPressed(buttons, 200));
            refuses("ifPressed(" + buttons + ", 201)", -2, x -> x.ifPressed(buttons, 201));
            refuses("rest(" + buttons + ", 0)", -2, x -> x.rest(buttons, 0));
            refuses("rest(" + buttons + ", 2)", -2, x -> x.rest(buttons, 2));
            refuses("rest(" + buttons + ", 3)", -2, x -> x.rest(buttons, 3));
        }
        for (int ticks : new int[] {LEAST, -1, 201, 202, MOST}) {
            refuses("ifPressed(0, " + ticks + ")", -2, x -> x.ifPressed(0, ticks));
            refuses("ifPressed(63, " + ticks + ")", -2, x -> x.ifPressed(63, ticks));
        }
        for (int what : new int[] {LEAST, -1, 3, 4, MOST}) {
            refuses("rest(0, " + what + ")", -2, x -> x.rest(0, what));
            refuses("rest(63, " + what + ")", -2, x -> x.rest(63, what));
        }
    }

    /** "NO_SUCH if there is no such relay; BAD_VALUE if both are the same; NONE if .." */
    private void raceAndOfRelay() {
        for (int buttons : NO_BUTTON_SETS) {
            refuses("race(" + buttons + ")", -2, x -> x.race(buttons));
        }
        for (int relay : NO_RELAYS) {
            refuses("ifWelded(" + relay + ", 0)", -1, x -> x.ifWelded(relay, 0));
            refuses("ifWelded(9, " + relay + ")", -1, x -> x.ifWelded(9, relay));
            refuses("ifWelded(" + relay + ", " + relay + ")", -1, x -> x.ifWelded(relay, relay));
            refuses("unsafe(" + relay + ")", -1, x -> x.unsafe(relay));
            refuses("reach(" + relay + ")", -1, x -> x.reach(relay));
        }
        for (int relay = 0; relay < 10; relay++) {
            int same = relay;
            refuses("ifWelded() of " + relay + " twice", -2, x -> x.ifWelded(same, same));
        }
    }

    /** "BAD_VALUE if there is no character, a code is not 33 to 126, or a bit above .. is not 0; TOO_MANY .." */
    private void put() {
        refuses("put(0)", -2, x -> x.put(0));
        refuses("put(-1)", -2, x -> x.put(-1));
        refuses("put(min)", -2, x -> x.put(Long.MIN_VALUE));
        refuses("put(max)", -2, x -> x.put(Long.MAX_VALUE));
        for (int bits = 0; bits < 64; bits += 8) {
            int place = bits;
            refuses("put() of 32 at " + place, -2, x -> x.put(withCode(place, 32)));
            refuses("put() of 127 at " + place, -2, x -> x.put(withCode(place, 127)));
            refuses("put() of a gap below " + place, -2, x -> x.put(place == 56 ? 256 : 1L << place + 8));
        }
    }

    /** As many characters as there can be up to a place, and one with a code at it. */
    private static long withCode(int place, long code) {
        long below = place == 0 ? 0 : 0x4141414141414141L >>> 64 - place;
        return code << place | below;
    }

    /** "BAD_VALUE if there is no such slot; NOT_POSSIBLE if nothing was saved in it" */
    private void slots() {
        for (int slot : new int[] {LEAST, -1, 2, 3, 32, MOST}) {
            refuses("save(" + slot + ")", -2, x -> x.save(slot));
            refuses("restore(" + slot + ")", -2, x -> x.restore(slot));
        }
    }

    // ---- calls that these rooms do not take

    private void ofNewRoom() {
        refuses("read()", -3, x -> x.read());
        refuses("undo()", -5, x -> x.undo());
        refuses("restore(0)", -5, x -> x.restore(0));
        refuses("restore(1)", -5, x -> x.restore(1));
        for (int number = 0; number < 10; number++) {
            int relay = number;
            refuses("weld(" + relay + ", true)", -5, x -> x.weld(relay, true));
            refuses("weld(" + relay + ", false)", -5, x -> x.weld(relay, false));
            refuses("branch(" + relay + ", 0, 0)", -1, x -> x.branch(relay, 0, 0));
            refuses("branch(" + relay + ", 0, 6)", -1, x -> x.branch(relay, 0, 6));
        }
        for (int number = 0; number < 6; number++) {
            int button = number;
            refuses("press(" + button + ", false)", -5, x -> x.press(button, false));
        }
    }

    private void ofOrdinaryRoom() {
        refuses("read()", -3, x -> x.read());
        refuses("press(0, true)", -5, x -> x.press(0, true));
        refuses("press(1, false)", -5, x -> x.press(1, false));
        refuses("weld(0, false) of one that is up", -5, x -> x.weld(0, false));
        refuses("weld(1, true) of one that waits", -5, x -> x.weld(1, true));
        refuses("restore(1)", -5, x -> x.restore(1));
        refuses("branch(0, 2, 0)", -1, x -> x.branch(0, 2, 0));
        refuses("branch(1, 1, 6)", -1, x -> x.branch(1, 1, 6));
        refuses("branch(2, 0, 0)", -1, x -> x.branch(2, 0, 0));
        for (int what : new int[] {LEAST, -1, 6, 7, MOST}) {
            refuses("branch(0, 0, " + what + ")", -2, x -> x.branch(0, 0, what));
            refuses("branch(0, 1, " + what + ")", -2, x -> x.branch(0, 1, what));
        }
        refuses("put() of nine bits", -2, x -> x.put(0x141));
    }

    private void ofRestlessRoom() {
        refuses("read()", -3, x -> x.read());
        refuses("restore(0)", -5, x -> x.restore(0));
        for (int buttons = 0; buttons < 64; buttons++) {
            int set = buttons;
            due.is("rest(" + set + ", 1) of a room without rest", restlessRoom().rest(set, 1), Due.NONE);
            due.is("race(" + set + ") of a room without rest", restlessRoom().race(set), 0);
        }
        for (int number = 0; number < 10; number++) {
            int relay = number;
            due.is("unsafe(" + relay + ") of a room without rest", restlessRoom().unsafe(relay), 0);
            due.is("reach(" + relay + ") of a room without rest", restlessRoom().reach(relay), Due.NONE);
        }
        due.is("ifWelded(0, 1) of a room without rest", restlessRoom().ifWelded(0, 1), Due.NONE);
    }

    private void ofFullRoom() {
        for (int number = 0; number < 6; number++) {
            int button = number;
            refuses("press(" + button + ", true)", -5, x -> x.press(button, true));
        }
        refuses("weld(0, true) of a welded one", -5, x -> x.weld(0, true));
        refuses("weld(9, true) of a welded one", -5, x -> x.weld(9, true));
        refuses("weld(5, false) of one that is up", -5, x -> x.weld(5, false));
        for (int what : new int[] {LEAST, -1, 6, 7, MOST}) {
            refuses("branch(9, 5, " + what + ")", -2, x -> x.branch(9, 5, what));
        }
        for (int length = 1; length <= 8; length++) {
            long characters = Due.packed("ABCDEFGH".substring(0, length));
            refuses("put() of " + length, -4, x -> x.put(characters));
        }
        refuses("put(33)", -4, x -> x.put(33));
        refuses("put(126)", -4, x -> x.put(126));
    }

    private void refuses(String call, int code, Twins.Call refused) {
        twins.refuses(call, code, refused);
    }
}
