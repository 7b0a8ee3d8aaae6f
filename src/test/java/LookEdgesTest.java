/** The least and the most that relay, branch and count can tell. */
public final class LookEdgesTest {
    public static void main(String[] args) {
        Due due = new Due("LookEdgesTest");
        allAndNoneAreUp(due);
        allButtons(due);
        longestWaits(due);
        manyOperations(due);
        couldHoldItself(due);
        contactsOfARelay(due);
        tellsTheSameTwice(due);
        eightOfAKind(due);
        sixtyBranches(due);
        neverClosed(due);
        lengthOfThePad(due);
        changesToUndo(due);
        ticksAndMoves(due);
        lookedAtBehindAFault(due);
        looksChangeNothing(due);
        due.end();
    }

    private static WeldedRelays allFed() {
        return Due.room("A=!a;B=!a;C=!a;D=!a;E=!a;F=!a;G=!a;H=!a;I=!a;J=!a");
    }

    /** "0 the relays that are up, 1 those that are fed, 2 .. welded, 3 .. want to move .. (each as a set)" */
    private static void allAndNoneAreUp(Due due) {
        WeldedRelays x = allFed();
        counts(due, x, 0, 1023, 0, 1023);
        due.is("ten move", x.pass(2), 10);
        counts(due, x, 1023, 1023, 0, 0);
        due.is("ten want to move", x.press(0, true), 1023);
        counts(due, x, 1023, 0, 0, 1023);
        for (int relay = 0; relay < 10; relay++) {
            x.weld(relay, true);
        }
        counts(due, x, 1023, 0, 1023, 0);
        for (int relay = 0; relay < 10; relay++) {
            x.weld(relay, false);
        }
        counts(due, x, 1023, 0, 0, 1023);
        due.is("ten move again", x.pass(1), 10);
        counts(due, x, 0, 0, 0, 0);
    }

    private static void counts(Due due, WeldedRelays x, int... wants) {
        for (int what = 0; what < wants.length; what++) {
            due.is("count(" + what + ")", x.count(what), wants[what]);
            for (int relay = 0; relay < 10; relay++) {
                int bit = wants[what] >> relay & 1;
                due.is("relay(" + relay + ", " + what + ")", x.relay(relay, what), bit);
            }
        }
    }

    /** "4 the buttons that are on" */
    private static void allButtons(Due due) {
        WeldedRelays x = new WeldedRelays();
        due.is("none is on", x.count(4), 0);
        for (int button = 5; button >= 0; button--) {
            x.press(button, true);
            due.is("on from " + button, x.count(4), 64 - (1 << button));
        }
    }

    /** "4 its wait": 0 to 8, as it moves at 9 */
    private static void longestWaits(Due due) {
        WeldedRelays x = Due.room("A=a;J=!a");
        x.settle();
        for (int relay : new int[] {0, 9}) {
            x.time(relay, false, 9);
            x.time(relay, true, 9);
        }
        x.press(0, true);
        for (int wait = 0; wait <= 8; wait++) {
            due.is("relay(0, 4)", x.relay(0, 4), wait);
            due.is("relay(9, 4)", x.relay(9, 4), wait);
            x.pass(1);
        }
        due.is("relay(0, 4)", x.relay(0, 4), 0);
        due.is("relay(9, 4)", x.relay(9, 4), 0);
        due.is("both moved", x.count(0), 1);
    }

    /** "5 its operations": also above the most LIFE */
    private static void manyOperations(Due due) {
        WeldedRelays x = Due.room("J=!J");
        x.time(9, false, 1);
        for (int i = 1; i <= 10; i++) {
            x.pass(200);
            due.is("relay(9, 5)", x.relay(9, 5), 100 * i);
        }
        due.is("of the others", x.relay(8, 5), 0);
        due.is("weld(9, true)", x.count(0), 0);
        x.pass(1);
        due.is("weld(9, true)", x.weld(9, true), 1001);
    }

    /** "9 whether it could hold itself: a branch has a front contact of it" */
    private static void couldHoldItself(Due due) {
        WeldedRelays x = Due.room("A=!A;B=A;C=a+b+c+d+e+abcdef!fC;D=D!D;J=J");
        int[] wants = {0, 0, 1, 1, 0, 0, 0, 0, 0, 1};
        for (int relay = 0; relay < 10; relay++) {
            due.is("relay(" + relay + ", 9)", x.relay(relay, 9), wants[relay]);
        }
        Due.read(x, "I=I+aI+!I");
        due.is("relay(8, 9) by two branches", x.relay(8, 9), 1);
        Due.read(x, "C=a;J=0");
        due.is("relay(2, 9) behind read()", x.relay(2, 9), 0);
        due.is("relay(9, 9) behind read()", x.relay(9, 9), 0);
    }

    /** "10 the relays whose circuits have a contact of it": of a front or a back one, in any branch */
    private static void contactsOfARelay(Due due) {
        WeldedRelays x = new WeldedRelays();
        due.is("none", x.relay(9, 10), 0);
        Due.read(x, "A=J;B=!J;C=a+b+c+d+e+f!J;D=J!J;E=J;F=J");
        due.is("some", x.relay(9, 10), Due.relays("ABCDEF"));
        Due.read(x, "G=J;H=J;I=J;J=!J");
        due.is("all", x.relay(9, 10), 1023);
        for (int relay = 0; relay < 9; relay++) {
            due.is("relay(" + relay + ", 10)", x.relay(relay, 10), 0);
        }
        Due.read(x, "A=0;B=f;C=f");
        due.is("three less", x.relay(9, 10), Due.relays("DEFGHIJ"));
        due.is("a button is no relay", x.relay(5, 10), 0);
        Due.read(x, "E=J+J;F=!J+!J;G=J+!J");
        due.is("in two branches", x.relay(9, 10), Due.relays("DEFGHIJ"));
    }

    /** "1 how many contacts it has (each one that is told)" */
    private static void tellsTheSameTwice(Due due) {
        WeldedRelays x = Due.room("A=aa+!b!b!b+CCCC!C!C!C!C+d");
        int[] wants = {2, 3, 8, 1};
        for (int branch = 0; branch < 4; branch++) {
            due.is("branch(0, " + branch + ", 1)", x.branch(0, branch, 1), wants[branch]);
        }
        due.is("branch(0, 2, 2)", x.branch(0, 2, 2), Due.relays("C"));
        due.is("branch(0, 2, 3)", x.branch(0, 2, 3), Due.relays("C"));
    }

    private static void eightOfAKind(Due due) {
        WeldedRelays x = Due.room("A=CDEFGHIJ+!C!D!E!F!G!H!I!J+abcdef+!a!b!c!d!e!f");
        int eight = Due.relays("CDEFGHIJ");
        int[][] wants = {
            {0, 8, eight, 0, 0, 0}, {1, 8, 0, eight, 0, 0}, {0, 6, 0, 0, 63, 0}, {1, 6, 0, 0, 0, 63},
        };
        for (int branch = 0; branch < 4; branch++) {
            for (int what = 0; what < 6; what++) {
                String call = "branch(0, " + branch + ", " + what + ")";
                due.is(call, x.branch(0, branch, what), wants[branch][what]);
            }
        }
    }

    /** "9 branches that can never be closed": all 60 of them */
    private static void sixtyBranches(Due due) {
        WeldedRelays x = new WeldedRelays();
        due.is("none", x.count(9), 0);
        for (int relay = 0; relay < 10; relay++) {
            Due.read(x, (char) ('A' + relay) + "=a!a+B!B+J!J+f!f+A!A+c!c");
            due.is("count(9)", x.count(9), 6 * (relay + 1));
            due.is("count(8)", x.count(8), relay + 1);
        }
        due.is("none is fed", x.count(1), 0);
    }

    /** "as they have a front and a back contact of the same relay or button" */
    private static void neverClosed(Due due) {
        String[] never = {"A!A", "!AA", "J!J", "a!a", "!ff", "aA!B!b!cdc", "abcdefA!A", "!JaaaaaaJ"};
        for (String branch : never) {
            due.is("count(9) of " + branch, Due.room("C=" + branch).count(9), 1);
        }
        String[] sometimes = {"A", "!A", "AA", "!A!A", "a!b", "A!a", "!Aa", "A!B", "F!f", "!Ff", "J!f", "a!A"};
        for (String branch : sometimes) {
            due.is("count(9) of " + branch, Due.room("C=" + branch).count(9), 0);
        }
        due.is("in two branches", Due.room("C=A+!A+a+!a").count(9), 0);
        due.is("in two circuits", Due.room("C=A;D=!A").count(9), 0);
    }

    /** "10 the length of the pad" */
    private static void lengthOfThePad(Due due) {
        WeldedRelays x = new WeldedRelays();
        for (int length = 0; length <= 64; length++) {
            due.is("count(10)", x.count(10), length);
            x.put('~');
        }
        due.is("count(10)", x.count(10), 64);
    }

    /** "11 how many changes can be undone" */
    private static void changesToUndo(Due due) {
        WeldedRelays x = new WeldedRelays();
        int[] wants = {0, 1, 2, 3, 4, 5, 6, 6, 6};
        for (int want : wants) {
            due.is("count(11)", x.count(11), want);
            x.life(want);
        }
    }

    /** "5 ticks so far, 6 how often relays moved so far" */
    private static void ticksAndMoves(Due due) {
        WeldedRelays x = allFed();
        due.is("no ticks", x.count(5), 0);
        for (int i = 1; i <= 7; i++) {
            x.pass(200);
            due.is("count(5)", x.count(5), 200 * i);
            due.is("count(6)", x.count(6), 10);
        }
        x.press(0, true);
        x.settle();
        due.is("count(5) behind settle()", x.count(5), 1401);
        due.is("count(6) behind settle()", x.count(6), 20);
    }

    /** Neither a text that is not taken nor what would be is looked at. */
    private static void lookedAtBehindAFault(Due due) {
        WeldedRelays x = Due.room("A=A!A+b;B=!A");
        Due.put(x, "A=cdB!B+f+C;C=A+!A+a!a;B=");
        x.rest(63, 0);
        due.is("fault()", x.fault(), 25);
        int[] counts = {0, 2, 0, 2, 0, 0, 0, 0, 2, 1, 25, 1};
        for (int what = 0; what < counts.length; what++) {
            due.is("count(" + what + ")", x.count(what), counts[what]);
        }
        int[] wants = {0, 0, 0, 0, 0, 0, 2, 1, 2, 1, Due.relays("AB")};
        for (int what = 0; what < wants.length; what++) {
            due.is("relay(0, " + what + ")", x.relay(0, what), wants[what]);
        }
        int[][] branches = {{0, 2, 1, 1, 0, 0}, {0, 1, 0, 0, 2, 0}};
        for (int branch = 0; branch < 2; branch++) {
            for (int what = 0; what < 6; what++) {
                due.is("branch(0, " + branch + ", " + what + ")", x.branch(0, branch, what), branches[branch][what]);
            }
        }
        due.is("no third branch", x.branch(0, 2, 0), Due.NO_SUCH);
        due.is("settle()", x.settle(), 2);
    }

    /** "---- what there is; nothing changes." */
    private static void looksChangeNothing(Due due) {
        Twins twins = new Twins(due, "room", () -> {
            WeldedRelays x = Due.room("A=a+bA;J=!A!J");
            x.save(0);
            x.press(0, true);
            x.pass(3);
            Due.put(x, "A=b");
            return x;
        }, "");
        for (int number = 0; number <= 11; number++) {
            int what = number;
            twins.keeps("count(" + what + ")", x -> x.count(what));
            twins.keeps("relay(0, " + what + ")", x -> x.relay(0, what));
            twins.keeps("relay(9, " + what + ")", x -> x.relay(9, what));
            twins.keeps("branch(0, 1, " + what + ")", x -> x.branch(0, 1, what));
            twins.keeps("branch(9, 0, " + what + ")", x -> x.branch(9, 0, what));
        }
    }
}
