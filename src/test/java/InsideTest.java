/** The first and the last value of each range, and all between, are taken; RefusedTest has those outside. */
public final class InsideTest {
    private static final boolean[] BOTH = {false, true};

    public static void main(String[] args) {
        Due due = new Due("InsideTest");
        timesOfEachRelay(due);
        eachTime(due);
        eachLife(due);
        eachButton(due);
        eachWeld(due);
        eachPass(due);
        eachRelayAndWhat(due);
        eachBranchAndWhat(due);
        eachButtonSet(due);
        eachTicksOfIfPressed(due);
        eachPairOfIfWelded(due);
        eachSlot(due);
        due.end();
    }

    /** "There are 10 relays, A to J (0 to 9)" */
    private static void timesOfEachRelay(Due due) {
        WeldedRelays x = new WeldedRelays();
        for (int relay = 0; relay < 10; relay++) {
            due.is("time to pick up of " + relay, x.time(relay, false, 3 + relay % 7), 2);
            due.is("time to drop of " + relay, x.time(relay, true, 9 - relay % 9), 1);
        }
        for (int relay = 0; relay < 10; relay++) {
            due.is("relay(" + relay + ", 6)", x.relay(relay, 6), 3 + relay % 7);
            due.is("relay(" + relay + ", 7)", x.relay(relay, 7), 9 - relay % 9);
        }
    }

    /** "ticks: 1 to 9 .. Returns the previous one" */
    private static void eachTime(Due due) {
        for (boolean isDrop : BOTH) {
            WeldedRelays x = new WeldedRelays();
            int previous = isDrop ? 1 : 2;
            for (int ticks = 1; ticks <= 9; ticks++) {
                due.is("time(4, " + isDrop + ", " + ticks + ")", x.time(4, isDrop, ticks), previous);
                due.is("the new one", x.relay(4, isDrop ? 7 : 6), ticks);
                due.is("the other one", x.relay(4, isDrop ? 6 : 7), isDrop ? 2 : 1);
                previous = ticks;
            }
            due.is("time(4, " + isDrop + ", 9) again", x.time(4, isDrop, 9), 9);
        }
    }

    /** "operations: 0 to 99 .. Returns the previous value" */
    private static void eachLife(Due due) {
        WeldedRelays x = new WeldedRelays();
        for (int life = 0; life <= 99; life++) {
            due.is("life(" + life + ")", x.life(life), Math.max(0, life - 1));
            due.is("count(7)", x.count(7), life);
        }
        due.is("life(99) again", x.life(99), 99);
        due.is("life(0)", x.life(0), 99);
    }

    /** "6 buttons, a to f (0 to 5)" */
    private static void eachButton(Due due) {
        WeldedRelays x = Due.room("A=a;B=b;C=c;D=d;E=e;F=f");
        int on = 0;
        for (int button = 0; button < 6; button++) {
            on |= 1 << button;
            due.is("press(" + button + ", true)", x.press(button, true), on);
            due.is("count(4)", x.count(4), on);
        }
        x.settle();
        for (int button = 0; button < 6; button++) {
            on ^= 1 << button;
            due.is("press(" + button + ", false)", x.press(button, false), 63 ^ on);
            due.is("count(4)", x.count(4), on);
        }
    }

    private static WeldedRelays allFedBy(String contact) {
        StringBuilder text = new StringBuilder();
        for (char relay = 'A'; relay <= 'J'; relay++) {
            text.append(relay == 'A' ? "" : ";").append(relay).append('=').append(contact);
        }
        return Due.room(text.toString());
    }

    private static void eachWeld(Due due) {
        WeldedRelays x = allFedBy("!a");
        x.settle();
        for (int relay = 0; relay < 10; relay++) {
            due.is("weld(" + relay + ", true)", x.weld(relay, true), 1);
            due.is("count(2)", x.count(2), (2 << relay) - 1);
        }
        for (int relay = 9; relay >= 0; relay--) {
            due.is("weld(" + relay + ", false)", x.weld(relay, false), 1);
            due.is("count(2)", x.count(2), (1 << relay) - 1);
            due.is("no operations", x.relay(relay, 5), 0);
        }
    }

    /** "ticks: 1 to 200" */
    private static void eachPass(Due due) {
        for (int ticks = 1; ticks <= 200; ticks++) {
            WeldedRelays x = Due.room("A=!A");
            due.is("pass(" + ticks + ")", x.pass(ticks), ticks / 3 * 2 + (ticks % 3 == 2 ? 1 : 0));
            due.is("count(5)", x.count(5), ticks);
        }
    }

    /** "what: 0 .. 10", of the first and the last relay, too */
    private static void eachRelayAndWhat(Due due) {
        WeldedRelays x = Due.room("A=aA;J=aJ+b");
        for (int relay : new int[] {0, 9}) {
            int[] wants = {0, 0, 0, 0, 0, 0, 2, 1, relay == 0 ? 1 : 2, 1, 1 << relay};
            for (int what = 0; what <= 10; what++) {
                due.is("relay(" + relay + ", " + what + ")", x.relay(relay, what), wants[what]);
            }
        }
    }

    /** "0 to 5" for branches and for what, at the first and the last relay */
    private static void eachBranchAndWhat(Due due) {
        for (int relay : new int[] {0, 9}) {
            String name = relay == 0 ? "A" : "J";
            WeldedRelays x = Due.room(name + "=A+B!C+!D+e!f+f+!aaaaaaa");
            int[][] wants = {
                {0, 1, Due.relays("A"), 0, 0, 0}, {0, 2, Due.relays("B"), Due.relays("C"), 0, 0},
                {1, 1, 0, Due.relays("D"), 0, 0}, {0, 2, 0, 0, Due.buttons("e"), Due.buttons("f")},
                {0, 1, 0, 0, Due.buttons("f"), 0}, {0, 7, 0, 0, Due.buttons("a"), Due.buttons("a")},
            };
            for (int branch = 0; branch < 6; branch++) {
                for (int what = 0; what <= 5; what++) {
                    String call = "branch(" + relay + ", " + branch + ", " + what + ")";
                    due.is(call, x.branch(relay, branch, what), wants[branch][what]);
                }
            }
        }
    }

    /** "buttons: 0 to 63", of ifPressed, rest and race */
    private static void eachButtonSet(Due due) {
        for (int buttons = 0; buttons < 64; buttons++) {
            WeldedRelays x = Due.room("A=a;B=b;C=c;D=d;E=e;F=f;G=abcdef");
            int up = buttons + (buttons == 63 ? 64 : 0);
            due.is("ifPressed(" + buttons + ", 2)", x.ifPressed(buttons, 2), up);
            due.is("rest(" + buttons + ", 0)", x.rest(buttons, 0), up);
            due.is("rest(" + buttons + ", 1)", x.rest(buttons, 1), buttons == 0 ? 0 : 2);
            due.is("rest(" + buttons + ", 2)", x.rest(buttons, 2), Integer.bitCount(up));
            due.is("race(" + buttons + ")", x.race(buttons), 0);
            due.is("race(" + buttons + ") by f", raceBy("f").race(buttons), buttons >> 5);
            due.is("race(" + buttons + ") by !f", raceBy("!f").race(buttons), 1 - (buttons >> 5));
        }
    }

    /** A pulse of A, which C holds, comes only if B is no quicker than A. */
    private static WeldedRelays raceBy(String contact) {
        WeldedRelays x = Due.room("A=" + contact + "!B;B=" + contact + ";C=A+C");
        x.time(1, false, 1);
        return x;
    }

    /** "ticks: 0 to 200" */
    private static void eachTicksOfIfPressed(Due due) {
        WeldedRelays x = Due.room("A=!A;B=!B;C=!C");
        x.time(1, false, 1);
        x.time(2, true, 9);
        for (int ticks = 0; ticks <= 200; ticks++) {
            int up = (ticks % 3 == 2 ? 1 : 0) + (ticks % 2 == 1 ? 2 : 0) + (ticks % 11 >= 2 ? 4 : 0);
            due.is("ifPressed(0, " + ticks + ")", x.ifPressed(0, ticks), up);
        }
    }

    private static void eachPairOfIfWelded(Due due) {
        WeldedRelays x = Due.room("A=J;B=A;C=B;D=C;E=D;F=E;G=F;H=G;I=H;J=0");
        for (int relay = 0; relay < 10; relay++) {
            for (int welded = 0; welded < 10; welded++) {
                boolean isBehind = relay != 9 && (welded == 9 || welded < relay);
                int want = relay == welded ? Due.BAD_VALUE : isBehind ? 1 : 0;
                due.is("ifWelded(" + relay + ", " + welded + ")", x.ifWelded(relay, welded), want);
            }
            due.is("unsafe(" + relay + ")", x.unsafe(relay), relay == 9 ? 0 : 512 | (1 << relay) - 1);
            due.is("reach(" + relay + ")", x.reach(relay), Due.NONE);
        }
    }

    /** "slot: 0 or 1" */
    private static void eachSlot(Due due) {
        for (int slot = 0; slot <= 1; slot++) {
            WeldedRelays x = Due.room("A=a;J=a");
            x.press(0, true);
            x.settle();
            due.is("save(" + slot + ")", x.save(slot), 513);
            due.is("restore(" + slot + ")", x.restore(slot), 513);
            due.is("restore() of the other", x.restore(1 - slot), Due.NOT_POSSIBLE);
        }
    }
}
