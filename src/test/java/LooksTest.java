/** Promises 9 to 11. */
public final class LooksTest {
    public static void main(String[] args) {
        Due due = new Due("LooksTest");
        relayErrors(due);
        relay(due);
        branchErrors(due);
        branch(due);
        count(due);
        nothingChanges(due);
        due.end();
    }

    private static void relayErrors(Due due) {
        WeldedRelays x = new WeldedRelays();
        due.is("relay(-1, 0)", x.relay(-1, 0), Due.NO_SUCH);
        due.is("relay(10, 0)", x.relay(10, 0), Due.NO_SUCH);
        due.is("relay(10, 11)", x.relay(10, 11), Due.NO_SUCH);
        due.is("relay(0, -1)", x.relay(0, -1), Due.BAD_VALUE);
        due.is("relay(9, 11)", x.relay(9, 11), Due.BAD_VALUE);
        due.is("relay(min, 0)", x.relay(Integer.MIN_VALUE, 0), Due.NO_SUCH);
        due.is("relay(0, max)", x.relay(0, Integer.MAX_VALUE), Due.BAD_VALUE);
    }

    private static void relay(Due due) {
        WeldedRelays x = Due.room("A=a+b!AC;B=bA+c!C;C=!BC");
        look(due, x, 0, 0, 0, 0, 0, 0, 0, 2, 1, 2, 0, Due.relays("AB"));
        look(due, x, 1, 0, 0, 0, 0, 0, 0, 2, 1, 2, 0, Due.relays("C"));
        look(due, x, 2, 0, 0, 0, 0, 0, 0, 2, 1, 1, 1, Due.relays("ABC"));
        x.press(0, true);
        x.pass(1);
        look(due, x, 0, 0, 1, 0, 1, 1, 0, 2, 1, 2, 0, Due.relays("AB"));
        x.pass(1);
        x.time(0, true, 7);
        look(due, x, 0, 1, 1, 0, 0, 0, 1, 2, 7, 2, 0, Due.relays("AB"));
        x.press(0, false);
        x.pass(3);
        look(due, x, 0, 1, 0, 0, 1, 3, 1, 2, 7, 2, 0, Due.relays("AB"));
        x.weld(0, true);
        look(due, x, 0, 1, 0, 1, 0, 3, 1, 2, 7, 2, 0, Due.relays("AB"));
        due.is("a relay without contacts and branches", x.relay(9, 10), 0);
    }

    private static void look(Due due, WeldedRelays x, int relay, int... wants) {
        for (int what = 0; what < wants.length; what++) {
            due.is("relay(" + relay + ", " + what + ")", x.relay(relay, what), wants[what]);
        }
    }

    private static void branchErrors(Due due) {
        WeldedRelays x = Due.room("B=a+b");
        due.is("branch(-1, 0, 0)", x.branch(-1, 0, 0), Due.NO_SUCH);
        due.is("branch(10, 0, 0)", x.branch(10, 0, 0), Due.NO_SUCH);
        due.is("branch(1, -1, 0)", x.branch(1, -1, 0), Due.NO_SUCH);
        due.is("branch(1, 2, 0)", x.branch(1, 2, 0), Due.NO_SUCH);
        due.is("branch(1, 2, 6)", x.branch(1, 2, 6), Due.NO_SUCH);
        due.is("branch(0, 0, 0)", x.branch(0, 0, 0), Due.NO_SUCH);
        due.is("branch(1, max, 0)", x.branch(1, Integer.MAX_VALUE, 0), Due.NO_SUCH);
        due.is("branch(1, min, 0)", x.branch(1, Integer.MIN_VALUE, 0), Due.NO_SUCH);
        due.is("branch(1, 1, -1)", x.branch(1, 1, -1), Due.BAD_VALUE);
        due.is("branch(1, 1, 6)", x.branch(1, 1, 6), Due.BAD_VALUE);
    }

    private static void branch(Due due) {
        WeldedRelays x = Due.room("J=ABaa!C!J!bf+!a+J");
        look(due, x, 0, 0, 8, Due.relays("AB"), Due.relays("CJ"), Due.buttons("af"), Due.buttons("b"));
        lookBranch(due, x, 9, 0, 0, 8, Due.relays("AB"), Due.relays("CJ"), Due.buttons("af"), Due.buttons("b"));
        lookBranch(due, x, 9, 1, 1, 1, 0, 0, 0, Due.buttons("a"));
        lookBranch(due, x, 9, 2, 0, 1, Due.relays("J"), 0, 0, 0);
        x.press(0, true);
        due.is("a back contact opens", x.branch(9, 1, 0), 0);
        WeldedRelays y = Due.room("A=ab");
        due.is("no contact is closed", y.branch(0, 0, 0), 0);
        y.press(0, true);
        due.is("one contact is closed", y.branch(0, 0, 0), 0);
        y.press(1, true);
        due.is("both contacts are closed", y.branch(0, 0, 0), 1);
    }

    private static void lookBranch(Due due, WeldedRelays x, int relay, int branch, int... wants) {
        for (int what = 0; what < wants.length; what++) {
            due.is("branch(" + relay + ", " + branch + ", " + what + ")", x.branch(relay, branch, what), wants[what]);
        }
    }

    private static void look(Due due, WeldedRelays x, int branch, int closed, int contacts,
            int frontRelays, int backRelays, int frontButtons, int backButtons) {
        lookBranch(due, x, 9, branch, closed, contacts, frontRelays, backRelays, frontButtons, backButtons);
    }

    private static void count(Due due) {
        WeldedRelays x = Due.room("A=a+bA!A!b+c!c;B=B!B+!c;E=!aAe", "C=d!aD");
        due.is("count(-1)", x.count(-1), Due.BAD_VALUE);
        due.is("count(12)", x.count(12), Due.BAD_VALUE);
        lookCounts(due, x, 0, Due.relays("B"), 0, Due.relays("B"), 0, 0, 0, 0, 4, 3, 0, 2);
        x.press(0, true);
        x.press(5, true);
        x.life(1);
        x.settle();
        Due.put(x, "nonsense!");
        int both = Due.relays("AB");
        lookCounts(due, x, both, both, both, 0, 33, 2, 2, 1, 4, 3, 9, 6);
        x.press(0, false);
        lookCounts(due, x, both, Due.relays("B"), both, 0, 32, 2, 2, 1, 4, 3, 9, 6);
        x.weld(0, false);
        lookCounts(due, x, both, Due.relays("B"), Due.relays("B"), 1, 32, 2, 2, 1, 4, 3, 9, 6);
        x.wipe();
        Due.read(x, "A=0");
        due.is("count(8) without A", x.count(8), 3);
        due.is("count(9) without A", x.count(9), 1);
        Due.read(x, "B=a;E=a+b!b;E=a");
        due.is("count(9) without any", x.count(9), 0);
    }

    private static void lookCounts(Due due, WeldedRelays x, int... wants) {
        for (int what = 0; what < wants.length; what++) {
            due.is("count(" + what + ")", x.count(what), wants[what]);
        }
    }

    private static void nothingChanges(Due due) {
        WeldedRelays x = Due.room("A=a");
        x.press(0, true);
        x.pass(1);
        for (int what = 0; what < 12; what++) {
            x.relay(0, what);
            x.branch(0, 0, what);
            x.count(what);
        }
        due.is("count(11)", x.count(11), 3);
        due.is("count(5)", x.count(5), 1);
        due.is("relay(0, 4)", x.relay(0, 4), 1);
    }
}
