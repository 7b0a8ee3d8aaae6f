/** Promises 12 to 17. */
public final class WhatIfTest {
    public static void main(String[] args) {
        Due due = new Due("WhatIfTest");
        ifPressed(due);
        rest(due);
        restBehind200(due);
        race(due);
        ifWelded(due);
        unsafe(due);
        reach(due);
        fromHowItIs(due);
        nothingChanges(due);
        due.end();
    }

    private static void ifPressed(Due due) {
        WeldedRelays x = Due.room("A=a;B=A;C=!b");
        due.is("ifPressed(-1, 0)", x.ifPressed(-1, 0), Due.BAD_VALUE);
        due.is("ifPressed(64, 0)", x.ifPressed(64, 0), Due.BAD_VALUE);
        due.is("ifPressed(0, -1)", x.ifPressed(0, -1), Due.BAD_VALUE);
        due.is("ifPressed(0, 201)", x.ifPressed(0, 201), Due.BAD_VALUE);
        due.is("ifPressed(1, 0)", x.ifPressed(1, 0), 0);
        due.is("ifPressed(1, 1)", x.ifPressed(1, 1), 0);
        due.is("ifPressed(1, 2)", x.ifPressed(1, 2), Due.relays("AC"));
        due.is("ifPressed(3, 3)", x.ifPressed(3, 3), Due.relays("A"));
        due.is("ifPressed(1, 4)", x.ifPressed(1, 4), Due.relays("ABC"));
        due.is("ifPressed(63, 200)", x.ifPressed(63, 200), Due.relays("AB"));
        x.press(0, true);
        x.settle();
        due.is("the others are off", x.ifPressed(0, 1), Due.relays("BC"));
        due.is("no tick", x.ifPressed(0, 0), Due.relays("ABC"));
        WeldedRelays y = Due.room("A=!A");
        y.life(1);
        due.is("LIFE counts here, too", y.ifPressed(0, 199), 1);
        due.is("up for good", y.ifPressed(0, 200), 1);
        due.is("but welds none", y.count(2), 0);
        due.is("without LIFE", Due.room("A=!A").ifPressed(0, 199), 0);
    }

    private static void rest(Due due) {
        WeldedRelays x = Due.room("A=a;B=A;C=c!C");
        due.is("rest(-1, 0)", x.rest(-1, 0), Due.BAD_VALUE);
        due.is("rest(64, 0)", x.rest(64, 0), Due.BAD_VALUE);
        due.is("rest(0, -1)", x.rest(0, -1), Due.BAD_VALUE);
        due.is("rest(0, 3)", x.rest(0, 3), Due.BAD_VALUE);
        due.is("rest(4, 3)", x.rest(4, 3), Due.BAD_VALUE);
        due.is("rest(0, 1) at once", x.rest(0, 1), 0);
        due.is("rest(1, 0)", x.rest(1, 0), Due.relays("AB"));
        due.is("rest(1, 1)", x.rest(1, 1), 4);
        due.is("rest(1, 2)", x.rest(1, 2), 2);
        for (int what = 0; what < 3; what++) {
            due.is("rest(4, " + what + ")", x.rest(4, what), Due.NONE);
        }
        x.press(0, true);
        x.settle();
        due.is("rest(0, 0) of the later room", x.rest(0, 0), 0);
        due.is("rest(0, 1) of the later room", x.rest(0, 1), 2);
        due.is("rest(0, 2) of the later room", x.rest(0, 2), 2);
        due.is("rest(1, 1) of the later room", x.rest(1, 1), 0);
    }

    private static void restBehind200(Due due) {
        WeldedRelays x = Due.wearsOut(2, 1, 67);
        due.is("rest(0, 1) of 200 ticks", x.rest(0, 1), 200);
        due.is("rest(0, 2) of 200 ticks", x.rest(0, 2), 133);
        due.is("rest(0, 0) of 200 ticks", x.rest(0, 0), 1);
        due.is("reach(0) of 200 ticks", x.reach(0), 0);
        due.is("ifWelded(0, 1) of 200 ticks", x.ifWelded(0, 1), 1);
        x = Due.wearsOut(1, 4, 41);
        due.is("rest(0, 1) of 201 ticks", x.rest(0, 1), Due.NONE);
        due.is("race(0) of 201 ticks", x.race(0), 1);
        due.is("reach(0) of 201 ticks", x.reach(0), Due.NONE);
        due.is("ifWelded(0, 1) of 201 ticks", x.ifWelded(0, 1), Due.NONE);
    }

    private static void race(Due due) {
        // D falls into one of two states, by which of A and B picks up first.
        WeldedRelays x = Due.room("A=a!B;B=a!A;C=bC+b!C");
        due.is("race(-1)", x.race(-1), Due.BAD_VALUE);
        due.is("race(64)", x.race(64), Due.BAD_VALUE);
        due.is("race(0)", x.race(0), 0);
        due.is("race(1) rests in neither case", x.race(1), 0);
        x.time(0, false, 1);
        due.is("race(1) rests in one case alone", x.race(1), 1);
        WeldedRelays y = Due.room("A=a;B=a;C=AbC+A!B+C");
        due.is("both at once", y.race(1), 0);
        y.time(1, false, 9);
        due.is("B is late, C holds itself", y.race(1), 1);
        due.is("C is up then", y.rest(1, 0), Due.relays("ABC"));
        y.press(0, true);
        y.settle();
        due.is("from how it is", y.race(1), 0);
        WeldedRelays quick = Due.room("A=a!B;B=a;C=A+C");
        due.is("a pulse that is too short", quick.rest(1, 0), Due.relays("B"));
        due.is("but not if all times are 1", quick.race(1), 1);
        WeldedRelays z = Due.room("A=a!A+aB;B=A");
        due.is("a room that rests if all times are 1 alone", z.race(1), raceByHand(z));
        z.time(0, true, 9);
        due.is("and with a slow drop", z.race(1), raceByHand(z));
    }

    /** By a second room whose times are made 1 by calls. */
    private static int raceByHand(WeldedRelays x) {
        x.save(1);
        int real = x.rest(1, 0);
        for (int relay = 0; relay < 10; relay++) {
            x.time(relay, false, 1);
            x.time(relay, true, 1);
        }
        int quick = x.rest(1, 0);
        x.restore(1);
        return real == quick ? 0 : 1;
    }

    private static void ifWelded(Due due) {
        WeldedRelays x = Due.room("A=a;B=A;C=!A;D=!D!E;F=b");
        due.is("ifWelded(-1, 0)", x.ifWelded(-1, 0), Due.NO_SUCH);
        due.is("ifWelded(0, 10)", x.ifWelded(0, 10), Due.NO_SUCH);
        due.is("ifWelded(0, -1)", x.ifWelded(0, -1), Due.NO_SUCH);
        due.is("ifWelded(10, 10)", x.ifWelded(10, 10), Due.NO_SUCH);
        due.is("ifWelded(3, 3)", x.ifWelded(3, 3), Due.BAD_VALUE);
        due.is("ifWelded(1, 0) does not rest", x.ifWelded(1, 0), Due.NONE);
        due.is("ifWelded(0, 4) rests", x.ifWelded(0, 4), 0);
        due.is("ifWelded(2, 4)", x.ifWelded(2, 4), 1);
        Due.read(x, "D=0");
        due.is("ifWelded(1, 0)", x.ifWelded(1, 0), 1);
        due.is("ifWelded(2, 0)", x.ifWelded(2, 0), 0);
        due.is("ifWelded(1, 4)", x.ifWelded(1, 4), 0);
        x.press(1, true);
        x.settle();
        due.is("all buttons are off", x.ifWelded(5, 0), 0);
        x.weld(5, true);
        due.is("one that is welded stays", x.ifWelded(5, 0), 1);
    }

    private static void unsafe(Due due) {
        WeldedRelays x = Due.room("A=a;B=A;C=B+D;E=!A;F=F");
        due.is("unsafe(-1)", x.unsafe(-1), Due.NO_SUCH);
        due.is("unsafe(10)", x.unsafe(10), Due.NO_SUCH);
        due.is("unsafe(0)", x.unsafe(0), 0);
        due.is("unsafe(1)", x.unsafe(1), Due.relays("A"));
        due.is("unsafe(2)", x.unsafe(2), Due.relays("ABD"));
        due.is("unsafe(4)", x.unsafe(4), Due.relays("BCDFGHIJ"));
        due.is("unsafe(5)", x.unsafe(5), 0);
        Due.read(x, "J=!J!A");
        due.is("those without rest are none", x.unsafe(2), Due.relays("A"));
        due.is("by J it rests", x.unsafe(4), Due.relays("J"));
        for (int relay = 0; relay < 10; relay++) {
            int set = 0;
            for (int other = 0; other < 10; other++) {
                set |= x.ifWelded(relay, other) == 1 ? 1 << other : 0;
            }
            due.is("unsafe(" + relay + ") by ifWelded()", x.unsafe(relay), set);
        }
    }

    private static void reach(Due due) {
        WeldedRelays x = Due.room("A=ab!c+cd+f!f;B=!a;C=a!C;D=abcdef;E=c!a+b!a;F=aG");
        due.is("reach(-1)", x.reach(-1), Due.NO_SUCH);
        due.is("reach(10)", x.reach(10), Due.NO_SUCH);
        due.is("by none of them", x.reach(1), 0);
        due.is("those without rest do not count", x.reach(0), Due.buttons("cd"));
        due.is("a room that does not rest", x.reach(3), Due.NONE);
        due.is("no way", x.reach(5), Due.NONE);
        due.is("the least number", x.reach(4), Due.buttons("b"));
        Due.read(x, "C=0");
        due.is("the least number of two", x.reach(0), Due.buttons("ab"));
        due.is("all of them", x.reach(3), 63);
        due.is("the fewest", Due.room("A=abc+f").reach(0), Due.buttons("f"));
        due.is("fewest ahead of least", Due.room("A=ab+e+f").reach(0), Due.buttons("e"));
    }

    private static void fromHowItIs(Due due) {
        WeldedRelays x = Due.room("A=a+bA");
        due.is("down: by a", x.reach(0), Due.buttons("a"));
        due.is("down: not by b", x.rest(2, 0), 0);
        x.press(0, true);
        x.pass(1);
        due.is("a wait of one is kept", x.rest(1, 1), 1);
        due.is("a wait of one is kept", x.ifPressed(1, 1), 1);
        x.pass(1);
        due.is("up: held by b", x.rest(2, 0), 1);
        due.is("up: by a first", x.reach(0), Due.buttons("a"));
        x.press(0, false);
        x.press(1, true);
        due.is("up and held", x.rest(2, 1), 0);
        due.is("dropped without b", x.rest(0, 0), 0);
    }

    private static void nothingChanges(Due due) {
        WeldedRelays x = Due.room("A=a;B=A;C=!B");
        Due.put(x, "A=b");
        x.press(0, true);
        x.pass(1);
        int before = print(x);
        x.ifPressed(0, 200);
        x.rest(63, 2);
        x.race(1);
        x.ifWelded(1, 0);
        x.unsafe(1);
        x.reach(2);
        due.is("all is as it was", print(x), before);
        due.is("settle()", x.settle(), 4);
    }

    private static int print(WeldedRelays x) {
        int print = 1;
        for (int what = 0; what < 12; what++) {
            print = print * 31 + x.count(what);
            for (int relay = 0; relay < 10; relay++) {
                print = print * 31 + x.relay(relay, what);
            }
        }
        return print;
    }
}
