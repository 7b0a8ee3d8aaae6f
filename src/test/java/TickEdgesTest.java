/** The edges of the tick, of LIFE and welding, and of coming to rest. */
public final class TickEdgesTest {
    public static void main(String[] args) {
        Due due = new Due("TickEdgesTest");
        pickUpAtItsTime(due);
        dropAtItsTime(due);
        timesAtFirst(due);
        waitIsLost(due);
        timeBelowTheWait(due);
        timeAboveTheWait(due);
        whoWantsToMove(due);
        weldedDoesNotWant(due);
        mendedWhileUp(due);
        asAtTheBeginning(due);
        withoutBranchesIsNeverFed(due);
        oneOfSixBranches(due);
        allOfEightContacts(due);
        operationsOnlyUpwards(due);
        lifeOfZero(due);
        lifeOfOne(due);
        lifeOf99(due);
        operationsAboveLife(due);
        lifeWeldsWhoPicksUp(due);
        weldedFromThenOn(due);
        mendedBeginsAnew(due);
        restAtOnce(due);
        restBehind(due);
        restWithQuickTimes(due);
        settleTwice(due);
        due.end();
    }

    /** "a time to pick up (1 to 9 ..) in ticks": "whose wait is its time to pick up or more" */
    private static void pickUpAtItsTime(Due due) {
        for (int time = 1; time <= 9; time++) {
            WeldedRelays x = Due.room("A=a");
            x.time(0, false, time);
            x.time(0, true, 10 - time);
            x.press(0, true);
            for (int wait = 1; wait < time; wait++) {
                due.is("tick " + wait + " of " + time, x.pass(1), 0);
                due.is("the wait", x.relay(0, 4), wait);
                due.is("it is down", x.relay(0, 0), 0);
            }
            due.is("the last of " + time, x.pass(1), 1);
            due.is("it is up", x.relay(0, 0), 1);
            due.is("its wait is 0 then", x.relay(0, 4), 0);
        }
    }

    /** "and a time to drop (1 to 9 ..)": "or its time to drop or more (if it is up)" */
    private static void dropAtItsTime(Due due) {
        for (int time = 1; time <= 9; time++) {
            WeldedRelays x = Due.room("A=a");
            x.time(0, false, 10 - time);
            x.time(0, true, time);
            x.press(0, true);
            x.settle();
            x.press(0, false);
            for (int wait = 1; wait < time; wait++) {
                due.is("tick " + wait + " of " + time, x.pass(1), 0);
                due.is("the wait", x.relay(0, 4), wait);
                due.is("it is up", x.relay(0, 0), 1);
            }
            due.is("the last of " + time, x.pass(1), 1);
            due.is("it is down", x.relay(0, 0), 0);
            due.is("its wait is 0 then", x.relay(0, 4), 0);
        }
    }

    /** "2 at first", "1 at first" */
    private static void timesAtFirst(Due due) {
        for (char relay = 'A'; relay <= 'J'; relay++) {
            WeldedRelays x = Due.room(relay + "=a");
            x.press(0, true);
            due.is(relay + " behind one tick", x.pass(1), 0);
            due.is(relay + " behind two ticks", x.pass(1), 1);
            x.press(0, false);
            due.is(relay + " drops behind one", x.pass(1), 1);
        }
    }

    /** "The wait .. becomes 1 more if it wants to move, otherwise 0." */
    private static void waitIsLost(Due due) {
        WeldedRelays x = Due.room("A=a");
        x.time(0, false, 9);
        x.time(0, true, 9);
        x.press(0, true);
        x.pass(8);
        x.press(0, false);
        due.is("the wait of eight", x.relay(0, 4), 8);
        due.is("not fed for one tick", x.pass(1), 0);
        due.is("the wait of none", x.relay(0, 4), 0);
        x.press(0, true);
        due.is("eight ticks anew", x.pass(8), 0);
        due.is("the ninth", x.pass(1), 1);
        x.press(0, false);
        x.pass(8);
        x.press(0, true);
        x.pass(1);
        due.is("the wait of none when up", x.relay(0, 4), 0);
        x.press(0, false);
        due.is("eight ticks anew when up", x.pass(8), 0);
        due.is("the ninth when up", x.pass(1), 1);
    }

    /** "whose wait is its time .. or more" */
    private static void timeBelowTheWait(Due due) {
        for (int time = 1; time <= 9; time++) {
            WeldedRelays x = Due.room("A=a;B=!a");
            x.settle();
            x.time(0, false, 9);
            x.time(1, true, 9);
            x.press(0, true);
            x.pass(5);
            x.time(0, false, time);
            x.time(1, true, time);
            due.is("no relay moves by a new time", x.count(0), Due.relays("B"));
            due.is("the sixth tick, time " + time, x.pass(1), time <= 6 ? 2 : 0);
            due.is("the other ticks, time " + time, x.pass(3), time <= 6 ? 0 : 2);
        }
    }

    private static void timeAboveTheWait(Due due) {
        WeldedRelays x = Due.room("A=a");
        x.press(0, true);
        x.pass(1);
        x.time(0, false, 9);
        due.is("seven more", x.pass(7), 0);
        due.is("the ninth", x.pass(1), 1);
    }

    /** "A relay that is fed and down, or not fed and up, wants to move" */
    private static void whoWantsToMove(Due due) {
        WeldedRelays x = Due.room("A=a");
        due.is("down, not fed", x.relay(0, 3), 0);
        due.is("press(0, true)", x.press(0, true), 1);
        due.is("down, fed", x.relay(0, 3), 1);
        x.settle();
        due.is("up, fed", x.relay(0, 3), 0);
        due.is("press(0, false)", x.press(0, false), 1);
        due.is("up, not fed", x.relay(0, 3), 1);
        due.is("weld(0, true)", x.weld(0, true), 1);
        due.is("up, not fed, welded", x.relay(0, 3), 0);
        due.is("press(0, true) of the welded one", x.press(0, true), 0);
        due.is("up, fed, welded", x.relay(0, 3), 0);
    }

    /** "but one that is up and welded does not": its wait becomes 0 at the next tick, not before. */
    private static void weldedDoesNotWant(Due due) {
        WeldedRelays x = Due.room("A=a;B=a");
        x.press(0, true);
        x.settle();
        x.time(0, true, 3);
        x.time(1, true, 3);
        x.press(0, false);
        x.pass(2);
        due.is("weld() ahead of the third tick", x.weld(0, true), 1);
        due.is("its wait ahead of the tick", x.relay(0, 4), 2);
        due.is("the other one drops", x.pass(1), 1);
        due.is("the welded one is up", x.count(0), 1);
        due.is("its wait behind the tick", x.relay(0, 4), 0);
        due.is("and for good", x.pass(200), 0);
        due.is("the room is at rest", x.settle(), 0);
    }

    private static void mendedWhileUp(Due due) {
        WeldedRelays x = Due.room("A=a");
        x.press(0, true);
        x.settle();
        x.time(0, true, 3);
        x.press(0, false);
        x.pass(2);
        x.weld(0, true);
        due.is("weld(0, false) without a tick between", x.weld(0, false), 1);
        due.is("the wait is there still", x.pass(1), 1);
    }

    /** "by all relays and buttons as they are at its beginning" */
    private static void asAtTheBeginning(Due due) {
        String[] chains = {"A=a;B=A;C=B", "A=B;B=C;C=a"};
        int[][] ups = {{1, 3, 7}, {4, 6, 7}};
        for (int chain = 0; chain < 2; chain++) {
            WeldedRelays x = Due.room(chains[chain]);
            for (int relay = 0; relay < 3; relay++) {
                x.time(relay, false, 1);
            }
            x.press(0, true);
            for (int up : ups[chain]) {
                due.is("one of " + chains[chain], x.pass(1), 1);
                due.is("up of " + chains[chain], x.count(0), up);
            }
            x.press(0, false);
            for (int i = 0; i < 3; i++) {
                due.is("down of " + chains[chain], x.pass(1), 1);
            }
            due.is("all are down", x.count(0), 0);
        }
    }

    /** "A relay without branches is never fed": it drops if it is up. */
    private static void withoutBranchesIsNeverFed(Due due) {
        WeldedRelays x = Due.room("A=!a;J=!a");
        x.settle();
        Due.read(x, "A=0");
        due.is("count(1)", x.count(1), Due.relays("J"));
        due.is("count(3)", x.count(3), Due.relays("A"));
        due.is("it drops", x.pass(1), 1);
        due.is("count(0)", x.count(0), Due.relays("J"));
        due.is("at rest", x.count(3), 0);
    }

    /** "A relay is fed if a branch of its circuit is closed." */
    private static void oneOfSixBranches(Due due) {
        WeldedRelays x = Due.room("J=a+b+c+d+e+f");
        due.is("by none", x.relay(9, 1), 0);
        for (int button = 0; button < 6; button++) {
            x.press(button, true);
            due.is("by branch " + button, x.relay(9, 1), 1);
            due.is("closed", x.branch(9, button, 0), 1);
            due.is("the other one is not", x.branch(9, 5 - button, 0), 0);
            x.press(button, false);
        }
        due.is("by none again", x.count(1), 0);
    }

    /** "A branch is closed if all of its contacts are." */
    private static void allOfEightContacts(Due due) {
        WeldedRelays x = Due.room("B=!e;C=!e;J=!aB!bcC!A!de");
        x.settle();
        x.press(4, true);
        due.is("seven of eight, without c", x.press(2, true), Due.relays("BCJ"));
        for (int button : new int[] {0, 1, 2, 3, 4}) {
            due.is("all eight", x.branch(9, 0, 0), 1);
            x.press(button, button < 2 || button == 3);
            due.is("not with button " + button, x.branch(9, 0, 0), 0);
            due.is("J is not fed", x.relay(9, 1), 0);
            x.undo();
        }
        due.is("all eight again", x.branch(9, 0, 0), 1);
        x.pass(1);
        due.is("without B and C", x.branch(9, 0, 0), 0);
    }

    /** "A relay that picks up has one operation more" */
    private static void operationsOnlyUpwards(Due due) {
        WeldedRelays x = Due.room("A=a");
        for (int times = 1; times <= 4; times++) {
            x.press(0, true);
            due.is("not by the press", x.relay(0, 5), times - 1);
            x.pass(1);
            due.is("not by the wait", x.relay(0, 5), times - 1);
            x.pass(1);
            due.is("by picking up", x.relay(0, 5), times);
            x.press(0, false);
            x.pass(1);
            due.is("not by dropping", x.relay(0, 5), times);
        }
    }

    /** "if LIFE is not 0": no number of operations welds, 99 and 100 neither. */
    private static void lifeOfZero(Due due) {
        WeldedRelays x = Due.room("A=!A");
        x.time(0, false, 1);
        due.is("100 ups and 100 downs", x.pass(200), 200);
        due.is("100 operations", x.relay(0, 5), 100);
        due.is("none is welded", x.count(2), 0);
        due.is("100 more", x.pass(200), 200);
        due.is("200 operations", x.relay(0, 5), 200);
        due.is("none is welded", x.count(2), 0);
    }

    private static void lifeOfOne(Due due) {
        WeldedRelays x = Due.room("A=!A;B=0");
        x.life(1);
        due.is("down, not welded", x.pass(1), 0);
        due.is("count(2) ahead", x.count(2), 0);
        due.is("it picks up", x.pass(1), 1);
        due.is("welded by the first", x.count(2), 1);
        due.is("up for good", x.pass(200), 0);
    }

    /** "its operations are LIFE or more": not at 98, but at 99 */
    private static void lifeOf99(Due due) {
        WeldedRelays x = Due.room("A=!A");
        x.time(0, false, 1);
        x.life(99);
        due.is("98 ups and 97 downs", x.pass(195), 195);
        due.is("98 operations", x.relay(0, 5), 98);
        due.is("not welded by the 98th", x.count(2), 0);
        due.is("down once more", x.pass(1), 1);
        due.is("up once more", x.pass(1), 1);
        due.is("99 operations", x.relay(0, 5), 99);
        due.is("welded by the 99th", x.count(2), 1);
        due.is("no more", x.pass(200), 0);
    }

    /** "or more": LIFE was set below the operations. "no relay is welded by that at once" */
    private static void operationsAboveLife(Due due) {
        for (int life = 1; life <= 7; life++) {
            WeldedRelays x = Due.room("A=!A");
            x.time(0, false, 1);
            x.pass(9);
            due.is("five operations, up", x.relay(0, 5) * 10 + x.relay(0, 0), 51);
            x.life(life);
            due.is("not at once, LIFE " + life, x.count(2), 0);
            due.is("it drops", x.pass(1), 1);
            due.is("not by dropping, LIFE " + life, x.count(2), 0);
            due.is("it picks up", x.pass(1), 1);
            due.is("at six operations, LIFE " + life, x.count(2), life <= 6 ? 1 : 0);
        }
    }

    /** "A relay that picks up ..": one that stays up is not welded. */
    private static void lifeWeldsWhoPicksUp(Due due) {
        WeldedRelays x = Due.room("A=a;B=b");
        x.press(0, true);
        x.settle();
        x.life(1);
        x.press(1, true);
        due.is("B picks up", x.settle(), 2);
        due.is("B alone is welded", x.count(2), Due.relays("B"));
        x.press(0, false);
        due.is("A drops", x.settle(), 1);
        due.is("count(0)", x.count(0), Due.relays("B"));
    }

    /** "it is welded from then on": also if LIFE is 0 or more later */
    private static void weldedFromThenOn(Due due) {
        WeldedRelays x = Due.room("A=a");
        x.life(1);
        x.press(0, true);
        x.settle();
        x.life(0);
        due.is("welded with LIFE 0", x.count(2), 1);
        x.life(99);
        x.press(0, false);
        due.is("stays up", x.settle(), 0);
        due.is("welded with LIFE 99", x.count(2), 1);
    }

    /** "mends one that is welded (it has no operations then)" */
    private static void mendedBeginsAnew(Due due) {
        WeldedRelays x = Due.room("A=!A;B=!B");
        x.life(2);
        x.settle();
        due.is("both are welded", x.count(2), 3);
        due.is("weld(0, false)", x.weld(0, false), 2);
        due.is("operations of A", x.relay(0, 5), 0);
        due.is("operations of B", x.relay(1, 5), 2);
        due.is("A is up", x.count(0), 3);
        due.is("down, up, down, up", x.pass(200), 4);
        due.is("welded again", x.count(2), 3);
        due.is("operations of A", x.relay(0, 5), 2);
        x.weld(0, false);
        due.is("weld(0, true) with no operations", x.weld(0, true), 0);
        due.is("operations stay", x.relay(0, 5), 0);
    }

    /** "(0, if it is at rest already)" */
    private static void restAtOnce(Due due) {
        WeldedRelays x = Due.room("A=a;B=!B");
        x.life(1);
        x.settle();
        due.is("settle() at rest", x.settle(), 0);
        due.is("no tick", x.count(5), 2);
        due.is("rest(0, 0)", x.rest(0, 0), Due.relays("B"));
        due.is("rest(0, 1)", x.rest(0, 1), 0);
        due.is("rest(0, 2)", x.rest(0, 2), 0);
        due.is("race(0)", x.race(0), 0);
        due.is("reach(1)", x.reach(1), 0);
        due.is("ifWelded(1, 2)", x.ifWelded(1, 2), 1);
    }

    /** "if it is at rest behind some number of ticks, at most 200" */
    private static void restBehind(Due due) {
        int[][] rooms = {{1, 9, 1}, {1, 1, 99}, {1, 2, 67}, {2, 1, 67}, {5, 5, 20}, {1, 4, 41}, {3, 2, 41}, {9, 9, 99}};
        for (int[] room : rooms) {
            int ticks = room[0] * room[2] + room[1] * (room[2] - 1);
            boolean rests = ticks <= 200;
            WeldedRelays x = Due.wearsOut(room[0], room[1], room[2]);
            due.is("rest(0, 0) of " + ticks, x.rest(0, 0), rests ? 1 : Due.NONE);
            due.is("rest(0, 1) of " + ticks, x.rest(0, 1), rests ? ticks : Due.NONE);
            due.is("rest(0, 2) of " + ticks, x.rest(0, 2), rests ? 2 * room[2] - 1 : Due.NONE);
            due.is("race(0) of " + ticks, x.race(0), rests ? 0 : 1);
            due.is("reach(0) of " + ticks, x.reach(0), rests ? 0 : Due.NONE);
            due.is("ifWelded(0, 1) of " + ticks, x.ifWelded(0, 1), rests ? 1 : Due.NONE);
            due.is("unsafe(0) of " + ticks, x.unsafe(0), rests ? 1022 : 0);
            due.is("settle() of " + ticks, x.settle(), rests ? ticks : 1200);
            due.is("count(5) of " + ticks, x.count(5), rests ? ticks : 200);
        }
    }

    /** With all times 1 A rests 197 ticks behind the chain ahead of it, with its own never in time. */
    private static void restWithQuickTimes(Due due) {
        String[] chains = {"C=b;D=C;A=D!A", "B=b;C=B;D=C;A=D!A", "E=b;B=E;C=B;D=C;A=D!A"};
        int[] ticks = {199, 200, 201};
        for (int i = 0; i < 3; i++) {
            WeldedRelays x = Due.room(chains[i]);
            x.life(99);
            x.time(0, true, 9);
            due.is("rest(2, 1) of " + chains[i], x.rest(2, 1), Due.NONE);
            due.is("race(2) of " + ticks[i], x.race(2), ticks[i] <= 200 ? 1 : 0);
            for (int relay = 0; relay < 10; relay++) {
                x.time(relay, false, 1);
                x.time(relay, true, 1);
            }
            due.is("rest(2, 1) with times 1", x.rest(2, 1), ticks[i] <= 200 ? ticks[i] : Due.NONE);
            due.is("race(2) with times 1", x.race(2), 0);
        }
    }

    /** "but at most 200 .. and 1000 more if it is not at rest then" */
    private static void settleTwice(Due due) {
        WeldedRelays x = Due.wearsOut(1, 4, 41);
        due.is("not yet", x.settle(), 1200);
        due.is("count(5)", x.count(5), 200);
        due.is("rest(0, 1)", x.rest(0, 1), 1);
        due.is("the last one", x.settle(), 1);
        due.is("count(5)", x.count(5), 201);
        due.is("at rest", x.settle(), 0);
        WeldedRelays y = Due.room("A=!A");
        due.is("never", y.settle(), 1200);
        due.is("never again", y.settle(), 1200);
        due.is("count(5)", y.count(5), 400);
        due.is("count(6)", y.count(6), 266);
    }
}
