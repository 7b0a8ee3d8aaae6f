/** Promises 2 to 8, and the tick. */
public final class ChangesTest {
    public static void main(String[] args) {
        Due due = new Due("ChangesTest");
        time(due);
        life(due);
        lifeWelds(due);
        read(due);
        readLimits(due);
        readLeavesNothingOld(due);
        press(due);
        weld(due);
        pass(due);
        tickMovesAllAtOnce(due);
        waits(due);
        settle(due);
        due.end();
    }

    private static void time(Due due) {
        WeldedRelays x = Due.room("A=a");
        due.is("time(-1, false, 1)", x.time(-1, false, 1), Due.NO_SUCH);
        due.is("time(10, false, 1)", x.time(10, false, 1), Due.NO_SUCH);
        due.is("time(10, false, 0)", x.time(10, false, 0), Due.NO_SUCH);
        due.is("time(0, false, 0)", x.time(0, false, 0), Due.BAD_VALUE);
        due.is("time(0, true, 10)", x.time(0, true, 10), Due.BAD_VALUE);
        due.is("time(9, false, -1)", x.time(9, false, -1), Due.BAD_VALUE);
        due.is("count(11) behind errors", x.count(11), 1);
        due.is("time(0, false, 9)", x.time(0, false, 9), 2);
        due.is("time(0, false, 1)", x.time(0, false, 1), 9);
        due.is("time(0, true, 4)", x.time(0, true, 4), 1);
        due.is("time(0, true, 3)", x.time(0, true, 3), 4);
        due.is("relay(0, 6)", x.relay(0, 6), 1);
        due.is("relay(0, 7)", x.relay(0, 7), 3);
        due.is("relay(1, 6)", x.relay(1, 6), 2);
        due.is("time(9, true, 9)", x.time(9, true, 9), 1);
        due.is("count(11)", x.count(11), 6);
        x.press(0, true);
        due.is("pass(1) to pick up", x.pass(1), 1);
        x.press(0, false);
        due.is("pass(2) to drop", x.pass(2), 0);
        due.is("pass(1) to drop", x.pass(1), 1);
    }

    private static void life(Due due) {
        WeldedRelays x = new WeldedRelays();
        due.is("life(-1)", x.life(-1), Due.BAD_VALUE);
        due.is("life(100)", x.life(100), Due.BAD_VALUE);
        due.is("count(11) behind errors", x.count(11), 0);
        due.is("life(99)", x.life(99), 0);
        due.is("life(0)", x.life(0), 99);
        due.is("life(1)", x.life(1), 0);
        due.is("count(7)", x.count(7), 1);
        due.is("count(11)", x.count(11), 3);
    }

    private static void lifeWelds(Due due) {
        WeldedRelays x = Due.room("A=!A");
        x.pass(5);
        due.is("two operations", x.relay(0, 5), 2);
        due.is("up by the second one", x.count(0), 1);
        x.life(2);
        due.is("not welded at once", x.count(2), 0);
        due.is("drops, picks up, and is welded", x.pass(200), 2);
        due.is("welded", x.count(2), 1);
        due.is("three operations", x.relay(0, 5), 3);
        due.is("at rest", x.settle(), 0);
        WeldedRelays y = Due.room("A=!A");
        y.life(3);
        due.is("three times up and twice down", y.pass(200), 5);
        due.is("operations are LIFE", y.relay(0, 5), 3);
        WeldedRelays z = Due.room("A=!A");
        due.is("LIFE 0 welds none", z.pass(200), 133);
    }

    private static void read(Due due) {
        WeldedRelays x = new WeldedRelays();
        due.is("read() of nothing", x.read(), Due.BAD_TEXT);
        Due.put(x, "A=a;");
        due.is("read() of a fault", x.read(), Due.BAD_TEXT);
        due.is("the pad stays", x.count(10), 4);
        due.is("the room stays", x.count(8), 0);
        due.is("no change", x.count(11), 0);
        due.is("read() mended", Due.read(x, "B=b"), 2);
        due.is("the pad is empty", x.count(10), 0);
        due.is("one change", x.count(11), 1);
        due.is("others stay", Due.read(x, "C=aB!c"), 3);
        due.is("the last one of several", Due.read(x, "A=a+b+c;B=0;A=d+!D"), 2);
        due.is("relay(0, 8)", x.relay(0, 8), 2);
        due.is("branch(0, 0, 4)", x.branch(0, 0, 4), Due.buttons("d"));
        due.is("branch(0, 1, 3)", x.branch(0, 1, 3), Due.relays("D"));
        due.is("relay(1, 8)", x.relay(1, 8), 0);
        due.is("branch(2, 0, 1)", x.branch(2, 0, 1), 3);
        due.is("the last one is 0", Due.read(x, "A=a;A=0"), 1);
        x = Due.room("A=a");
        x.press(0, true);
        x.pass(2);
        x.press(0, false);
        x.time(0, true, 5);
        x.pass(2);
        due.is("read() while A waits", Due.read(x, "A=b"), 1);
        due.is("A stays up", x.relay(0, 0), 1);
        due.is("its wait stays", x.relay(0, 4), 2);
        due.is("its operations stay", x.relay(0, 5), 1);
        due.is("its time stays", x.relay(0, 7), 5);
        due.is("the ticks stay", x.count(5), 4);
    }

    private static void readLimits(Due due) {
        WeldedRelays x = new WeldedRelays();
        due.is("six branches", Due.read(x, "J=a+b+c+d+e+!AABCDEFG"), 1);
        due.is("relay(9, 8)", x.relay(9, 8), 6);
        due.is("branch(9, 5, 1)", x.branch(9, 5, 1), 8);
        due.is("branch(9, 6, 1)", x.branch(9, 6, 1), Due.NO_SUCH);
        due.is("seven branches", Due.read(x, "A=a+a+a+a+a+a+a"), Due.BAD_TEXT);
        x.wipe();
        due.is("nine contacts", Due.read(x, "A=aaaaaaaaa"), Due.BAD_TEXT);
        x.wipe();
        due.is("all ten", Due.read(x, "A=a;B=a;C=a;D=a;E=a;F=a;G=a;H=a;I=a;J=0"), 9);
        due.is("a short one in place of a long one", x.relay(9, 8), 0);
        due.is("an older branch is gone", Due.read(x, "J=B"), 10);
        due.is("branch(9, 0, 3)", x.branch(9, 0, 3), 0);
        due.is("branch(9, 0, 4)", x.branch(9, 0, 4), 0);
    }

    private static void readLeavesNothingOld(Due due) {
        WeldedRelays x = Due.room("A=!a!BcD+!cJ+E!E", "A=d");
        due.is("relay(0, 8)", x.relay(0, 8), 1);
        int[] wants = {0, 1, 0, 0, Due.buttons("d"), 0};
        for (int what = 0; what < wants.length; what++) {
            due.is("branch(0, 0, " + what + ")", x.branch(0, 0, what), wants[what]);
        }
        due.is("branch(0, 1, 0)", x.branch(0, 1, 0), Due.NO_SUCH);
        for (int relay = 0; relay < 10; relay++) {
            due.is("relay(" + relay + ", 10)", x.relay(relay, 10), 0);
        }
        due.is("count(9)", x.count(9), 0);
        due.is("count(1)", x.count(1), 0);
        Due.read(x, "A=d+!d");
        due.is("the second one anew", x.branch(0, 1, 3) + x.branch(0, 1, 2), 0);
    }

    private static void press(Due due) {
        WeldedRelays x = Due.room("A=a;B=!a;C=b");
        due.is("press(-1, false)", x.press(-1, false), Due.NO_SUCH);
        due.is("press(6, false)", x.press(6, false), Due.NO_SUCH);
        due.is("press(0, false)", x.press(0, false), Due.NOT_POSSIBLE);
        due.is("press(0, true)", x.press(0, true), Due.relays("A"));
        due.is("press(0, true) again", x.press(0, true), Due.NOT_POSSIBLE);
        due.is("press(1, true)", x.press(1, true), Due.relays("AC"));
        due.is("count(4)", x.count(4), 3);
        due.is("no tick", x.count(5), 0);
        x.settle();
        due.is("press(0, false)", x.press(0, false), Due.relays("AB"));
        due.is("press(5, true)", x.press(5, true), Due.relays("AB"));
        due.is("count(4)", x.count(4), 34);
        due.is("count(11)", x.count(11), 6);
    }

    private static void weld(Due due) {
        WeldedRelays x = Due.room("A=a");
        due.is("weld(-1, true)", x.weld(-1, true), Due.NO_SUCH);
        due.is("weld(10, false)", x.weld(10, false), Due.NO_SUCH);
        due.is("weld(0, true) down", x.weld(0, true), Due.NOT_POSSIBLE);
        due.is("weld(0, false) not welded", x.weld(0, false), Due.NOT_POSSIBLE);
        x.press(0, true);
        x.settle();
        due.is("count(11)", x.count(11), 3);
        due.is("weld(0, true)", x.weld(0, true), 1);
        due.is("weld(0, true) again", x.weld(0, true), Due.NOT_POSSIBLE);
        due.is("count(11)", x.count(11), 4);
        due.is("operations stay", x.relay(0, 5), 1);
        due.is("press(0, false)", x.press(0, false), 0);
        due.is("it stays up", x.pass(20), 0);
        due.is("weld(0, false)", x.weld(0, false), 1);
        due.is("no operations", x.relay(0, 5), 0);
        due.is("it is up still", x.relay(0, 0), 1);
        due.is("it wants to move", x.count(3), 1);
        due.is("it drops", x.pass(1), 1);
        due.is("weld(0, true) down again", x.weld(0, true), Due.NOT_POSSIBLE);
    }

    private static void pass(Due due) {
        WeldedRelays x = Due.room("A=a;B=A;C=!C");
        due.is("pass(0)", x.pass(0), Due.BAD_VALUE);
        due.is("pass(-1)", x.pass(-1), Due.BAD_VALUE);
        due.is("pass(201)", x.pass(201), Due.BAD_VALUE);
        due.is("count(11) behind errors", x.count(11), 1);
        due.is("pass(200)", x.pass(200), 133);
        due.is("count(5)", x.count(5), 200);
        due.is("count(6)", x.count(6), 133);
        x.press(0, true);
        due.is("pass(4)", x.pass(4), 5);
        due.is("count(5)", x.count(5), 204);
        due.is("count(6)", x.count(6), 138);
        due.is("count(0)", x.count(0), Due.relays("AB"));
        due.is("pass(1) without moves", new WeldedRelays().pass(1), 0);
    }

    private static void tickMovesAllAtOnce(Due due) {
        WeldedRelays x = Due.room("A=!B;B=!A");
        due.is("both pick up", x.pass(2), 2);
        due.is("both are up", x.count(0), 3);
        due.is("both drop", x.pass(1), 2);
        due.is("both are down", x.count(0), 0);
        x = Due.room("A=a;B=A;C=B");
        x.time(0, false, 1);
        x.time(1, false, 1);
        x.time(2, false, 1);
        x.press(0, true);
        due.is("one a tick", x.pass(1), 1);
        due.is("A", x.count(0), 1);
        due.is("one a tick", x.pass(1), 1);
        due.is("A and B", x.count(0), 3);
        due.is("the third", x.pass(1), 1);
    }

    private static void waits(Due due) {
        WeldedRelays x = Due.room("A=a");
        x.time(0, false, 5);
        x.press(0, true);
        x.pass(3);
        due.is("waits three ticks", x.relay(0, 4), 3);
        x.press(0, false);
        due.is("the wait stays until a tick", x.relay(0, 4), 3);
        x.pass(1);
        due.is("the wait is 0", x.relay(0, 4), 0);
        x.press(0, true);
        x.pass(4);
        due.is("waits four ticks", x.relay(0, 4), 4);
        x.time(0, false, 2);
        due.is("its time is less by now", x.pass(1), 1);
        due.is("the wait is 0", x.relay(0, 4), 0);
        x.time(0, true, 3);
        x.press(0, false);
        x.pass(2);
        due.is("waits to drop", x.relay(0, 4), 2);
        x.weld(0, true);
        due.is("welding leaves the wait", x.relay(0, 4), 2);
        x.pass(1);
        due.is("the welded one does not wait", x.relay(0, 4), 0);
    }

    private static void settle(Due due) {
        WeldedRelays x = Due.room("A=a;B=A;C=B");
        due.is("settle() at rest", x.settle(), 0);
        due.is("it is a change all the same", x.count(11), 2);
        x.press(0, true);
        due.is("settle()", x.settle(), 6);
        due.is("count(5)", x.count(5), 6);
        due.is("count(6)", x.count(6), 3);
        due.is("settle() that never ends", Due.room("A=!A").settle(), 1200);
        due.is("settle() behind 199 ticks", Due.wearsOut(1, 2, 67).settle(), 199);
        due.is("settle() behind 200 ticks", Due.wearsOut(2, 1, 67).settle(), 200);
        due.is("settle() behind 201 ticks", Due.wearsOut(1, 4, 41).settle(), 1200);
        x = Due.wearsOut(1, 4, 41);
        due.is("200 ticks are not enough", x.settle(), 1200);
        due.is("one more is", x.settle(), 1);
    }
}
