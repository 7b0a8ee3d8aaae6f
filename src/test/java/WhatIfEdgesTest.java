/** The edges of the calls that tell what would be. */
public final class WhatIfEdgesTest {
    public static void main(String[] args) {
        Due due = new Due("WhatIfEdgesTest");
        noTick(due);
        asManyTicksAsTold(due);
        othersAreOff(due);
        whatOfRest(due);
        noneIsNoSet(due);
        raceOfOtherRelays(due);
        raceOfRest(due);
        raceFromAWait(due);
        weldedOneIsUp(due);
        buttonsAreOff(due);
        weldedByNow(due);
        neverByItself(due);
        byAllOthers(due);
        withoutRestByOne(due);
        reachByNone(due);
        reachByAll(due);
        fewestAndLeast(due);
        reachFromHowItIs(due);
        lifeAndOperations(due);
        nothingChanges(due);
        due.end();
    }

    /** "ticks: 0 to 200": behind none the relays are as they are. */
    private static void noTick(Due due) {
        WeldedRelays x = Due.room("A=a;B=!a");
        x.settle();
        for (int buttons = 0; buttons < 64; buttons++) {
            due.is("ifPressed(" + buttons + ", 0)", x.ifPressed(buttons, 0), Due.relays("B"));
        }
    }

    private static void asManyTicksAsTold(Due due) {
        WeldedRelays x = Due.room("A=a");
        x.time(0, false, 9);
        due.is("behind 8", x.ifPressed(1, 8), 0);
        due.is("behind 9", x.ifPressed(1, 9), 1);
        x.press(0, true);
        x.pass(8);
        due.is("behind 0 more", x.ifPressed(1, 0), 0);
        due.is("behind 1 more", x.ifPressed(1, 1), 1);
        WeldedRelays y = Due.room("A=!A");
        y.time(0, false, 1);
        due.is("behind 199", y.ifPressed(0, 199), 1);
        due.is("behind 200", y.ifPressed(0, 200), 0);
        due.is("it need not rest", y.rest(0, 0), Due.NONE);
    }

    /** "if the buttons of a set were on, and the others off" */
    private static void othersAreOff(Due due) {
        WeldedRelays x = Due.room("A=a;B=b;C=c;D=d;E=e;F=f");
        for (int button = 0; button < 6; button++) {
            x.press(button, true);
        }
        x.settle();
        for (int buttons : new int[] {0, 1, 2, 21, 32, 42, 62, 63}) {
            due.is("ifPressed(" + buttons + ", 1)", x.ifPressed(buttons, 1), buttons);
            due.is("rest(" + buttons + ", 0)", x.rest(buttons, 0), buttons);
            due.is("rest(" + buttons + ", 1)", x.rest(buttons, 1), buttons == 63 ? 0 : 1);
            due.is("rest(" + buttons + ", 2)", x.rest(buttons, 2), 6 - Integer.bitCount(buttons));
        }
        due.is("the buttons are on", x.count(4), 63);
    }

    /** "what: 0 the relays that are up then, 1 behind how many ticks, 2 how often relays move until then" */
    private static void whatOfRest(Due due) {
        WeldedRelays x = Due.room("A=a;B=A;C=!A");
        x.pass(9);
        int[][] wants = {{Due.relays("C"), 0, 0}, {Due.relays("AB"), 4, 3}};
        for (int buttons = 0; buttons < 2; buttons++) {
            for (int what = 0; what < 3; what++) {
                due.is("rest(" + buttons + ", " + what + ")", x.rest(buttons, what), wants[buttons][what]);
            }
        }
        due.is("none moved before", new WeldedRelays().rest(63, 2), 0);
    }

    /** NONE has bits of its own, which are no relays. */
    private static void noneIsNoSet(Due due) {
        WeldedRelays x = Due.room("J=!J;B=0;D=!a");
        for (int relay = 0; relay < 9; relay++) {
            due.is("reach(" + relay + ")", x.reach(relay), Due.NONE);
            due.is("unsafe(" + relay + ")", x.unsafe(relay), relay == 3 ? Due.relays("J") : 0);
            due.is("ifWelded(" + relay + ")", x.ifWelded(relay, relay == 0 ? 1 : 0), Due.NONE);
        }
        due.is("race(0)", x.race(0), 0);
        for (int what = 0; what < 3; what++) {
            due.is("rest(0, " + what + ")", x.rest(0, what), Due.NONE);
        }
    }

    /** "would come to rest with other relays up if all times of all relays were 1" */
    private static void raceOfOtherRelays(Due due) {
        WeldedRelays x = Due.room("A=a!B;B=a;C=A+C");
        due.is("times 2 and 2", x.race(1), 1);
        due.is("rest(1, 0)", x.rest(1, 0), Due.relays("B"));
        x.time(0, false, 1);
        x.time(2, false, 3);
        due.is("A is up for two ticks, C is late", x.race(1), 1);
        due.is("rest(1, 0)", x.rest(1, 0), Due.relays("B"));
        x.time(2, false, 2);
        due.is("C in time", x.race(1), 0);
        due.is("rest(1, 0)", x.rest(1, 0), Due.relays("BC"));
        WeldedRelays drops = Due.room("A=a;B=a;C=!Ab!B+C");
        drops.time(2, false, 1);
        drops.press(0, true);
        drops.settle();
        due.is("both drop at once", drops.race(2), 0);
        drops.time(0, true, 9);
        due.is("the time to drop counts, but C picks up all the same", drops.race(2), 0);
        WeldedRelays slow = Due.room("A=a;B=a;C=!AbB+C");
        slow.time(2, false, 1);
        slow.press(0, true);
        slow.settle();
        due.is("B does not see A drop", slow.race(2), 0);
        slow.time(1, true, 9);
        due.is("B is up behind A", slow.race(2), 1);
        due.is("rest(2, 0)", slow.rest(2, 0), Due.relays("C"));
    }

    /** "or would come to rest in one of both cases alone" */
    private static void raceOfRest(Due due) {
        WeldedRelays x = Due.room("A=!B;B=!A");
        due.is("neither rests", x.race(0), 0);
        x.time(0, false, 1);
        due.is("it rests with its own times alone", x.race(0), 1);
        due.is("rest(0, 0)", x.rest(0, 0), Due.relays("A"));
        WeldedRelays y = Due.room("A=a!B+a!C;B=A;C=B");
        y.time(1, true, 9);
        y.time(2, true, 9);
        due.is("race(1) of a ring", y.race(1), y.rest(1, 0) == restWithTimesOne(y, 1) ? 0 : 1);
        WeldedRelays quick = Due.room("A=a!A+aB;B=aA+aB");
        due.is("it rests with quick times alone", quick.race(1), quick.rest(1, 0) == restWithTimesOne(quick, 1) ? 0 : 1);
        due.is("with its own it does not", quick.rest(1, 0), Due.NONE);
        due.is("race(1)", quick.race(1), 1);
    }

    /** What rest() answers for a room whose times are made 1 by calls; the room is as before then. */
    private static int restWithTimesOne(WeldedRelays x, int buttons) {
        x.save(0);
        for (int relay = 0; relay < 10; relay++) {
            x.time(relay, false, 1);
            x.time(relay, true, 1);
        }
        int up = x.rest(buttons, 0);
        x.restore(0);
        return up;
    }

    private static void raceFromAWait(Due due) {
        WeldedRelays x = Due.room("A=a!B;B=a!A");
        x.time(0, false, 3);
        x.time(1, false, 3);
        due.is("both alike", x.race(1), 0);
        Due.read(x, "B=0");
        x.press(0, true);
        x.pass(1);
        Due.read(x, "B=a!A");
        due.is("A waits already", x.relay(0, 4), 1);
        due.is("A is first with its own times alone", x.race(1), 1);
        due.is("rest(1, 0)", x.rest(1, 0), 1);
    }

    /** "if another one was up and welded from now on" */
    private static void weldedOneIsUp(Due due) {
        WeldedRelays x = Due.room("B=A;C=!A;D=B!C;A=a");
        due.is("down and without a button", x.ifWelded(1, 0), 1);
        due.is("what it opens", x.ifWelded(2, 0), 0);
        due.is("behind both", x.ifWelded(3, 0), 1);
        due.is("by another one", x.ifWelded(3, 1), 0);
        due.is("C is up without it", x.ifWelded(2, 1), 1);
        x.press(0, true);
        x.settle();
        due.is("up already", x.ifWelded(3, 0), 1);
        due.is("A drops", x.ifWelded(0, 1), 0);
        due.is("no operation by that", x.relay(0, 5), 1);
    }

    /** "with all buttons off" */
    private static void buttonsAreOff(Due due) {
        WeldedRelays x = Due.room("A=a+b+c;B=d+e+f;C=!a!b!c!d!e!f");
        for (int button = 0; button < 6; button++) {
            x.press(button, true);
        }
        x.settle();
        due.is("count(0)", x.count(0), Due.relays("AB"));
        due.is("ifWelded(0, 9)", x.ifWelded(0, 9), 0);
        due.is("ifWelded(1, 9)", x.ifWelded(1, 9), 0);
        due.is("ifWelded(2, 9)", x.ifWelded(2, 9), 1);
        due.is("unsafe(2)", x.unsafe(2), 1023 - Due.relays("C"));
    }

    private static void weldedByNow(Due due) {
        WeldedRelays x = Due.room("A=a;B=b;C=A");
        x.press(0, true);
        x.settle();
        x.weld(0, true);
        due.is("ifWelded(2, 0) by one that is welded already", x.ifWelded(2, 0), 1);
        Due.read(x, "C=0");
        due.is("ifWelded(0, 1) of a welded one", x.ifWelded(0, 1), 1);
        due.is("unsafe(0)", x.unsafe(0), 1022);
        due.is("unsafe(1)", x.unsafe(1), 0);
        x.weld(0, false);
        due.is("unsafe(0) of a mended one", x.unsafe(0), 0);
    }

    /** "by which other relays": never by itself */
    private static void neverByItself(Due due) {
        WeldedRelays x = Due.room("A=A;B=!B+B");
        due.is("unsafe(0)", x.unsafe(0), 0);
        due.is("unsafe(1)", x.unsafe(1), 1021);
    }

    private static void byAllOthers(Due due) {
        WeldedRelays x = Due.room("A=B+C+D+E+F+GHIJ;J=A+B+C+D+E+F", "J=0");
        due.is("unsafe(0)", x.unsafe(0), Due.relays("BCDEF"));
        Due.read(x, "G=H;H=I;I=J;J=G");
        due.is("unsafe(0) by a ring", x.unsafe(0), 1022);
        due.is("unsafe(9) by a ring", x.unsafe(9), Due.relays("GHI"));
    }

    /** Those by which the room does not come to rest are none of "a relay is up by ifWelded()". */
    private static void withoutRestByOne(Due due) {
        WeldedRelays x = Due.room("A=!a;B=C!B");
        due.is("ifWelded(0, 2)", x.ifWelded(0, 2), Due.NONE);
        due.is("ifWelded(0, 1)", x.ifWelded(0, 1), 1);
        due.is("unsafe(0)", x.unsafe(0), 1023 - Due.relays("AC"));
        due.is("unsafe(1)", x.unsafe(1), 0);
    }

    /** "the set of buttons with the fewest of them": none of them is the fewest. */
    private static void reachByNone(Due due) {
        WeldedRelays x = Due.room("A=!a;B=a+!b;C=!c!d!e!f;D=0");
        due.is("reach(0)", x.reach(0), 0);
        due.is("reach(1)", x.reach(1), 0);
        due.is("reach(2)", x.reach(2), 0);
        due.is("reach(3)", x.reach(3), Due.NONE);
        due.is("reach(9) of one without branches", x.reach(9), Due.NONE);
        due.is("reach(0) of a branch that never closes", Due.room("A=a!a").reach(0), Due.NONE);
    }

    private static void reachByAll(Due due) {
        WeldedRelays x = Due.room("A=abcdef;B=abcde;C=bcdef;D=abcdef!A;E=!abcdef");
        due.is("reach(0)", x.reach(0), 63);
        due.is("reach(1)", x.reach(1), 31);
        due.is("reach(2)", x.reach(2), 62);
        due.is("reach(3) never rests up", x.reach(3), Due.NONE);
        due.is("reach(4)", x.reach(4), 62);
    }

    /** "of several the one with the least number" */
    private static void fewestAndLeast(Due due) {
        String[] circuits = {"abc+def", "def+abf", "f+abc", "ef+af", "cd+bf+ae", "abcde+f", "f+e+d", "abcd+ef", "bf+ce+cd"};
        String[] wants = {"abc", "abf", "f", "af", "cd", "f", "d", "ef", "cd"};
        for (int i = 0; i < circuits.length; i++) {
            due.is("reach(0) of " + circuits[i], Due.room("A=" + circuits[i]).reach(0), Due.buttons(wants[i]));
        }
        due.is("one more, as the fewer do not rest", Due.room("A=a+b;B=!b!B").reach(0), Due.buttons("b"));
        due.is("two, as one does not rest", Due.room("A=a;B=!b!B").reach(0), Due.buttons("ab"));
    }

    /** "when the room has come to rest from how it is" */
    private static void reachFromHowItIs(Due due) {
        WeldedRelays x = Due.room("A=ab+A!c");
        due.is("down", x.reach(0), Due.buttons("ab"));
        x.press(0, true);
        x.press(1, true);
        x.settle();
        due.is("up", x.reach(0), 0);
        x.press(2, true);
        due.is("up, with c on", x.reach(0), 0);
    }

    /** LIFE counts in the ticks of these calls, from the operations that there are. */
    private static void lifeAndOperations(Due due) {
        WeldedRelays x = Due.room("A=!A");
        x.life(3);
        due.is("rest(0, 1)", x.rest(0, 1), 8);
        x.pass(3);
        due.is("rest(0, 1) behind one operation", x.rest(0, 1), 5);
        due.is("rest(0, 2)", x.rest(0, 2), 3);
        x.life(0);
        due.is("rest(0, 1) without LIFE", x.rest(0, 1), Due.NONE);
        x.life(1);
        due.is("rest(0, 1) with less", x.rest(0, 1), 2);
        due.is("operations", x.relay(0, 5), 1);
        due.is("welded", x.count(2), 0);
    }

    /** "---- what if; nothing changes." */
    private static void nothingChanges(Due due) {
        Twins twins = new Twins(due, "room", () -> {
            WeldedRelays x = Due.room("A=a+bA;B=A!b;J=!A!J");
            x.life(2);
            x.save(1);
            x.press(0, true);
            x.pass(3);
            Due.put(x, "A=b+c");
            return x;
        }, "");
        for (int number : new int[] {0, 1, 2, 32, 63}) {
            int buttons = number;
            twins.keeps("ifPressed(" + buttons + ", 0)", x -> x.ifPressed(buttons, 0));
            twins.keeps("ifPressed(" + buttons + ", 200)", x -> x.ifPressed(buttons, 200));
            twins.keeps("rest(" + buttons + ", 0)", x -> x.rest(buttons, 0));
            twins.keeps("rest(" + buttons + ", 2)", x -> x.rest(buttons, 2));
            twins.keeps("race(" + buttons + ")", x -> x.race(buttons));
        }
        for (int number = 0; number < 10; number++) {
            int relay = number;
            twins.keeps("ifWelded(" + relay + ", ..)", x -> x.ifWelded(relay, (relay + 1) % 10));
            twins.keeps("unsafe(" + relay + ")", x -> x.unsafe(relay));
            twins.keeps("reach(" + relay + ")", x -> x.reach(relay));
        }
    }
}
