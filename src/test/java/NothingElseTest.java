import java.util.Map;
import java.util.Set;
import java.util.TreeSet;

/** What each call that changes something leaves: all but what the document says that it changes. */
public final class NothingElseTest {
    // A change records the state before it.
    private static final String RECORDED = "count(11)";

    public static void main(String[] args) {
        Due due = new Due("NothingElseTest");
        settings(due);
        read(due);
        buttonsAndWelds(due);
        ticks(due);
        texts(due);
        saved(due);
        backAgain(due);
        undone(due);
        leaveTextAndSlots(due);
        due.end();
    }

    /**
     * Three changes. A is up and waits to drop, B is down and waits to pick up, J is up, held by itself and
     * welded, D is up and fed; c is on; the pad is filled; both slots hold something else.
     */
    private static WeldedRelays busyRoom() {
        WeldedRelays x = Due.room("A=a;B=c;D=!f;J=a+J");
        x.time(0, true, 9);
        x.time(1, false, 8);
        x.life(90);
        x.save(0);
        x.press(0, true);
        x.settle();
        x.weld(9, true);
        x.press(0, false);
        x.save(1);
        for (int undone = 0; undone < 6; undone++) {
            x.undo();
        }
        x.restore(1);
        x.press(2, true);
        x.pass(3);
        Due.put(x, "A=b;C=!A");
        return x;
    }

    private static void changes(Due due, String name, Twins.Call call, String... wants) {
        WeldedRelays x = busyRoom();
        Map<String, Integer> before = Look.allValues(x);
        int answer = call.on(x);
        due.is(name + " is no error", answer >= 0 || answer == Due.NONE ? 1 : 0, 1);
        Set<String> got = Look.differences(before, Look.allValues(x));
        boolean isSame = got.equals(new TreeSet<>(Set.of(wants)));
        due.is(name + " changes " + got, isSame ? 1 : 0, 1);
    }

    /** "Changes a time of a relay.", "Changes LIFE" */
    private static void settings(Due due) {
        for (int number = 0; number < 10; number++) {
            int relay = number;
            String name = "relay(" + relay + ", ";
            changes(due, "time to pick up of " + relay, x -> x.time(relay, false, 5), name + "6)", RECORDED);
            changes(due, "time to drop of " + relay, x -> x.time(relay, true, 5), name + "7)", RECORDED);
        }
        changes(due, "time() as it is", x -> x.time(0, true, 9), RECORDED);
        for (int number : new int[] {0, 1, 2, 89, 99}) {
            int life = number;
            changes(due, "life(" + life + ")", x -> x.life(life), "count(7)", RECORDED);
        }
        changes(due, "life() as it is", x -> x.life(90), RECORDED);
    }

    /** "Takes the circuits of the pad .. and empties the pad. All else stays." */
    private static void read(Due due) {
        changes(due, "read()", x -> x.read(), RECORDED, "count(10)", "fault()", "branch(0, 0, 4)", "relay(2, 8)",
                "branch(2, 0, 1)", "branch(2, 0, 2)", "branch(2, 0, 3)", "branch(2, 0, 4)", "branch(2, 0, 5)");
    }

    /** "Turns a button on, or off.", "Welds a relay that is up, or mends one that is welded" */
    private static void buttonsAndWelds(Due due) {
        for (int number = 0; number < 6; number++) {
            int button = number;
            changes(due, "press() of " + button, x -> x.press(button, button != 2), "count(4)", RECORDED);
        }
        changes(due, "weld(0, true)", x -> x.weld(0, true), "count(2)", RECORDED);
        changes(due, "weld(3, true)", x -> x.weld(3, true), "count(2)", RECORDED);
        changes(due, "weld(9, false)", x -> x.weld(9, false), "count(2)", "relay(9, 5)", RECORDED);
    }

    /** "Lets ticks pass." */
    private static void ticks(Due due) {
        changes(due, "pass(1)", x -> x.pass(1), "count(5)", "relay(0, 4)", "relay(1, 4)", RECORDED);
        changes(due, "pass(6)", x -> x.pass(6), "count(0)", "count(5)", "count(6)", "relay(0, 4)", "relay(1, 4)",
                "relay(1, 5)", RECORDED);
        changes(due, "settle()", x -> x.settle(), "count(0)", "count(5)", "count(6)", "relay(0, 4)", "relay(1, 4)",
                "relay(1, 5)", RECORDED);
    }

    /** "Appends characters to the pad.", "Empties the pad" */
    private static void texts(Due due) {
        changes(due, "put()", x -> x.put(Due.packed("+b")), "count(10)");
        changes(due, "put() of a fault", x -> x.put(Due.packed(")")), "count(10)", "fault()");
        changes(due, "wipe()", x -> x.wipe(), "count(10)", "fault()");
        changes(due, "fault()", x -> x.fault());
    }

    private static void saved(Due due) {
        changes(due, "save(0)", x -> x.save(0));
        changes(due, "save(1)", x -> x.save(1));
    }

    /** "Undoes the latest change", "Restores what was saved last in a slot" */
    private static void backAgain(Due due) {
        changes(due, "undo()", x -> x.undo(), "count(5)", "relay(0, 4)", "relay(1, 4)", RECORDED);
        changes(due, "restore(1)", x -> x.restore(1), "count(4)", "count(5)", "relay(0, 4)", "relay(1, 4)", RECORDED);
        changes(due, "restore(0)", x -> x.restore(0), "count(0)", "count(2)", "count(4)", "count(5)", "count(6)",
                "relay(0, 4)", "relay(0, 5)", "relay(1, 4)", "relay(3, 5)", "relay(9, 5)", RECORDED);
    }

    /** A change and its undo() leave all as it was: the pad, the slots and the older states, too. */
    private static void undone(Due due) {
        Twins twins = new Twins(due, "busy room", NothingElseTest::busyRoom, "");
        Twins.Call[] changes = {
            x -> x.time(0, false, 5), x -> x.time(9, true, 5), x -> x.life(0), x -> x.life(1), x -> x.press(0, true),
            x -> x.press(2, false), x -> x.weld(0, true), x -> x.weld(9, false), x -> x.pass(1), x -> x.pass(200),
            x -> x.settle(), x -> x.restore(0), x -> x.restore(1),
        };
        for (int number = 0; number < changes.length; number++) {
            Twins.Call change = changes[number];
            twins.keeps("change " + number + " and undo()", x -> change.on(x) + x.undo());
        }
    }

    /** The slots and the states of the history are no part of what put, wipe and read change. */
    private static void leaveTextAndSlots(Due due) {
        Twins twins = new Twins(due, "busy room", NothingElseTest::busyRoom, "");
        twins.keeps("wipe() and the same text", x -> {
            x.wipe();
            return Due.put(x, "A=b;C=!A");
        });
        twins.keeps("read(), undo() and the same text", x -> {
            x.read();
            x.undo();
            return Due.put(x, "A=b;C=!A");
        });
    }
}
