/**
 * "It comes to rest from how it is": the what-if calls start from the relays, waits, operations, welds,
 * times and LIFE as they are. Each room here would answer otherwise if one of these were lost.
 */
public final class FromHowItIsTest {
    public static void main(String[] args) {
        Due due = new Due("FromHowItIsTest");
        waitsToPickUp(due);
        waitsToDrop(due);
        noWaits(due);
        operations(due);
        operationsOfTheQuickCase(due);
        noOperations(due);
        withoutLife(due);
        welded(due);
        up(due);
        timesToPickUp(due);
        timesToDrop(due);
        otherWeldedOnes(due);
        due.end();
    }

    /** Which of two relays is first hangs on a wait, and all else on which one is first. */
    private static void waitsToPickUp(Due due) {
        WeldedRelays x = Due.room("A=!B");
        x.time(0, false, 3);
        x.time(1, false, 3);
        x.pass(1);
        Due.read(x, "B=!A");
        due.is("A waits", x.relay(0, 4) * 10 + x.relay(1, 4), 10);
        due.is("ifPressed(0, 1)", x.ifPressed(0, 1), 0);
        due.is("ifPressed(0, 2)", x.ifPressed(0, 2), Due.relays("A"));
        firstOfTwo(due, x, 0);
    }

    private static void waitsToDrop(Due due) {
        WeldedRelays x = Due.room("A=!a;B=!a");
        x.settle();
        x.time(0, true, 3);
        x.time(1, true, 3);
        Due.read(x, "A=!B");
        x.pass(1);
        Due.read(x, "B=!A");
        due.is("A waits", x.relay(0, 4) * 10 + x.relay(1, 4), 10);
        due.is("ifPressed(0, 1)", x.ifPressed(0, 1), Due.relays("AB"));
        due.is("ifPressed(0, 2)", x.ifPressed(0, 2), Due.relays("B"));
        firstOfTwo(due, x, 1);
    }

    /** Two ticks from rest, one move; one of A and B is up then, and the other one is not. */
    private static void firstOfTwo(Due due, WeldedRelays x, int first) {
        int other = 1 - first;
        due.is("rest(0, 0)", x.rest(0, 0), 1 << first);
        due.is("rest(0, 1)", x.rest(0, 1), 2);
        due.is("rest(0, 2)", x.rest(0, 2), 1);
        due.is("race(0)", x.race(0), 1);
        for (int welded = 2; welded < 10; welded++) {
            due.is("ifWelded(first, " + welded + ")", x.ifWelded(first, welded), 1);
            due.is("ifWelded(other, " + welded + ")", x.ifWelded(other, welded), 0);
        }
        due.is("unsafe(first)", x.unsafe(first), 1023 - Due.relays("AB"));
        due.is("unsafe(other)", x.unsafe(other), 0);
        due.is("reach(first)", x.reach(first), 0);
        due.is("reach(other)", x.reach(other), Due.NONE);
    }

    private static void noWaits(Due due) {
        WeldedRelays x = Due.room("A=!B;B=!A");
        x.time(0, false, 3);
        x.time(1, false, 3);
        due.is("ifPressed(0, 2)", x.ifPressed(0, 2), 0);
        due.is("ifPressed(0, 3)", x.ifPressed(0, 3), Due.relays("AB"));
        due.is("race(0)", x.race(0), 0);
        neverRests(due, x);
    }

    private static void neverRests(Due due, WeldedRelays x) {
        for (int what = 0; what <= 2; what++) {
            due.is("rest(0, " + what + ")", x.rest(0, what), Due.NONE);
        }
        due.is("ifWelded(0, 9)", x.ifWelded(0, 9), Due.NONE);
        due.is("unsafe(0)", x.unsafe(0), 0);
        due.is("reach(0)", x.reach(0), Due.NONE);
    }

    /** A has been up five times: 65 ups of 2 ticks and 64 downs of 1 tick are left of a LIFE of 70. */
    private static WeldedRelays fiveTimesUp() {
        WeldedRelays x = Due.room("A=!A");
        x.pass(15);
        x.life(70);
        return x;
    }

    private static void operations(Due due) {
        WeldedRelays x = fiveTimesUp();
        due.is("operations", x.relay(0, 5), 5);
        due.is("ifPressed(0, 192)", x.ifPressed(0, 192), 0);
        due.is("ifPressed(0, 195)", x.ifPressed(0, 195), 1);
        due.is("ifPressed(0, 198)", x.ifPressed(0, 198), 1);
        due.is("rest(0, 0)", x.rest(0, 0), 1);
        due.is("rest(0, 1)", x.rest(0, 1), 194);
        due.is("rest(0, 2)", x.rest(0, 2), 129);
        due.is("race(0)", x.race(0), 0);
        due.is("ifWelded(0, 9)", x.ifWelded(0, 9), 1);
        due.is("unsafe(0)", x.unsafe(0), 1022);
        due.is("reach(0)", x.reach(0), 0);
        due.is("settle()", x.settle(), 194);
    }

    /** If all times are 1: 4 ticks to D, and of a LIFE of 99, once used, 98 ups and 97 downs are 199. */
    private static void operationsOfTheQuickCase(Due due) {
        for (int used = 0; used < 2; used++) {
            WeldedRelays x = Due.room("A=a");
            if (used == 1) {
                x.press(0, true);
                x.settle();
                x.press(0, false);
                x.settle();
            }
            Due.read(x, "E=b;B=E;C=B;D=C;A=D!A");
            x.life(99);
            due.is("operations", x.relay(0, 5), used);
            due.is("rest(2, 0) with its own times", x.rest(2, 0), Due.NONE);
            due.is("race(2) behind " + used, x.race(2), used);
        }
    }

    private static void noOperations(Due due) {
        WeldedRelays x = Due.room("A=!A");
        x.life(70);
        due.is("ifPressed(0, 195)", x.ifPressed(0, 195), 0);
        due.is("race(0)", x.race(0), 1);
        neverRests(due, x);
    }

    private static void withoutLife(Due due) {
        WeldedRelays x = fiveTimesUp();
        x.life(0);
        due.is("ifPressed(0, 195)", x.ifPressed(0, 195), 0);
        due.is("race(0)", x.race(0), 0);
        neverRests(due, x);
    }

    /** C never rests if A is down. */
    private static void welded(Due due) {
        WeldedRelays x = Due.room("A=a;C=!A!C");
        x.press(0, true);
        x.settle();
        x.weld(0, true);
        x.press(0, false);
        restsByA(due, x);
        due.is("reach(0)", x.reach(0), 0);
        x.weld(0, false);
        due.is("mended: ifPressed(0, 1)", x.ifPressed(0, 1) & 1, 0);
        due.is("mended: rest(0, 0)", x.rest(0, 0), Due.NONE);
        due.is("mended: ifWelded(0, 9)", x.ifWelded(0, 9), Due.NONE);
        due.is("mended: unsafe(0)", x.unsafe(0), 0);
        due.is("mended: reach(0)", x.reach(0), Due.buttons("a"));
    }

    /** A holds itself, if it is up. */
    private static void up(Due due) {
        WeldedRelays x = Due.room("A=a+A!b;C=!A!C");
        due.is("down: rest(0, 0)", x.rest(0, 0), Due.NONE);
        due.is("down: ifWelded(0, 9)", x.ifWelded(0, 9), Due.NONE);
        due.is("down: unsafe(0)", x.unsafe(0), 0);
        due.is("down: reach(0)", x.reach(0), Due.buttons("a"));
        x.press(0, true);
        x.settle();
        x.press(0, false);
        restsByA(due, x);
        due.is("reach(0)", x.reach(0), 0);
    }

    private static void restsByA(Due due, WeldedRelays x) {
        x.settle();
        for (int ticks : new int[] {0, 1, 2, 199, 200}) {
            due.is("ifPressed(0, " + ticks + ")", x.ifPressed(0, ticks), Due.relays("A"));
        }
        due.is("rest(0, 0)", x.rest(0, 0), Due.relays("A"));
        due.is("rest(0, 1)", x.rest(0, 1), 0);
        due.is("rest(0, 2)", x.rest(0, 2), 0);
        due.is("race(0)", x.race(0), 0);
        due.is("ifWelded(0, 9)", x.ifWelded(0, 9), 1);
        due.is("ifWelded(2, 9)", x.ifWelded(2, 9), 0);
        due.is("unsafe(0)", x.unsafe(0), 1022);
        due.is("unsafe(2)", x.unsafe(2), 0);
    }

    /** A is quicker than B, by its time to pick up; the one that is quicker keeps the other one down. */
    private static void timesToPickUp(Due due) {
        for (int quicker = 0; quicker < 2; quicker++) {
            WeldedRelays x = Due.room("A=!B;B=!A");
            x.time(quicker, false, 2);
            x.time(1 - quicker, false, 3);
            due.is("ifPressed(0, 2)", x.ifPressed(0, 2), 1 << quicker);
            firstOfTwo(due, x, quicker);
        }
    }

    private static void timesToDrop(Due due) {
        for (int quicker = 0; quicker < 2; quicker++) {
            WeldedRelays x = Due.room("A=!a;B=!a");
            x.settle();
            Due.read(x, "A=!B;B=!A");
            x.time(quicker, true, 2);
            x.time(1 - quicker, true, 3);
            due.is("ifPressed(0, 2)", x.ifPressed(0, 2), 2 >> quicker);
            firstOfTwo(due, x, 1 - quicker);
        }
    }

    /** "if another one was up and welded": those that are welded by now stay so. */
    private static void otherWeldedOnes(Due due) {
        WeldedRelays x = Due.room("A=a;B=a;C=AD;D=0");
        x.press(0, true);
        x.settle();
        x.weld(0, true);
        x.press(0, false);
        due.is("ifWelded(2, 3)", x.ifWelded(2, 3), 1);
        due.is("ifWelded(1, 3)", x.ifWelded(1, 3), 0);
        due.is("unsafe(2)", x.unsafe(2), Due.relays("D"));
        due.is("unsafe(0)", x.unsafe(0), 1022);
        due.is("unsafe(1)", x.unsafe(1), 0);
    }
}
