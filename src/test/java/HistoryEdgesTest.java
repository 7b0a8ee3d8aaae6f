/** The edges of undo, save and restore. */
public final class HistoryEdgesTest {
    private static final Twins.Call[] CHANGES = {
        x -> x.time(1, false, 7), x -> x.time(9, true, 9), x -> x.life(99), x -> x.press(1, true), x -> x.pass(3),
        x -> Due.read(x, "B=!a+A!b;J=J+!J"), x -> x.settle(), x -> x.weld(0, true), x -> x.press(0, false),
        x -> x.pass(1), x -> x.weld(0, false), x -> Due.read(x, "A=0"), x -> x.life(0), x -> x.pass(200),
    };
    // Each answers no error, but leaves the room of nothingIsDifferent() as it is.
    private static final Twins.Call[] CHANGES_OF_NOTHING = {
        x -> x.time(0, false, 2), x -> x.time(9, true, 1), x -> x.life(0), x -> Due.read(x, "A=a"), x -> x.settle(),
        x -> x.restore(1),
    };

    public static void main(String[] args) {
        Due due = new Due("HistoryEdgesTest");
        undoOfNone(due);
        eachChangeIsUndone(due);
        oneToSevenChanges(due);
        roundTheRing(due);
        changesBetweenUndos(due);
        nothingIsDifferent(due);
        eachChangeIsOne(due);
        whatIsNoChange(due);
        undoLeavesThePad(due);
        undoLeavesTheSlots(due);
        undoOfRestore(due);
        nothingSaved(due);
        overwritten(due);
        slotKeepsIt(due);
        saveTakesEverything(due);
        saveLeavesPadAndHistory(due);
        due.end();
    }

    /** Of as many changes as are told, from the first one on. */
    private static WeldedRelays roomBehind(int changes) {
        WeldedRelays x = Due.room("A=a;B=!a+A");
        x.press(0, true);
        x.pass(2);
        for (int i = 0; i < changes; i++) {
            // What would be is not what is recorded.
            x.ifPressed(60, 5);
            CHANGES[i].on(x);
        }
        return x;
    }

    private static void same(Due due, String what, WeldedRelays x, WeldedRelays y) {
        due.is(what, Look.state(x).equals(Look.state(y)) ? 1 : 0, 1);
    }

    /** "NOT_POSSIBLE if there is none" */
    private static void undoOfNone(Due due) {
        WeldedRelays x = new WeldedRelays();
        due.is("undo() of none", x.undo(), Due.NOT_POSSIBLE);
        x.life(9);
        due.is("undo() of one", x.undo(), 0);
        due.is("undo() of none again", x.undo(), Due.NOT_POSSIBLE);
        due.is("undo() of none once more", x.undo(), Due.NOT_POSSIBLE);
        due.is("count(11)", x.count(11), 0);
        due.is("count(7)", x.count(7), 0);
        due.is("the next change", x.life(8), 0);
        due.is("count(11)", x.count(11), 1);
    }

    /** "everything except the pad, the slots and the history is as it was before it" */
    private static void eachChangeIsUndone(Due due) {
        for (int changes = 1; changes <= CHANGES.length; changes++) {
            for (int undone = 1; undone <= Math.min(6, changes); undone++) {
                WeldedRelays x = roomBehind(changes);
                for (int i = 1; i <= undone; i++) {
                    due.is("undo() " + i + " of " + changes, x.undo(), Math.min(6, changes + 3) - i);
                }
                same(due, "as behind " + (changes - undone), x, roomBehind(changes - undone));
            }
        }
    }

    /** "A history of at most 6 states is kept .. when one more is recorded, the oldest one is dropped." */
    private static void oneToSevenChanges(Due due) {
        for (int changes = 1; changes <= 8; changes++) {
            WeldedRelays x = new WeldedRelays();
            for (int life = 1; life <= changes; life++) {
                x.life(life);
                due.is("count(11) behind " + life, x.count(11), Math.min(6, life));
            }
            int kept = Math.min(6, changes);
            for (int undone = 1; undone <= kept; undone++) {
                due.is("undo() " + undone + " of " + changes, x.undo(), kept - undone);
                due.is("count(7)", x.count(7), changes - undone);
                due.is("count(11)", x.count(11), kept - undone);
            }
            due.is("one more of " + changes, x.undo(), Due.NOT_POSSIBLE);
            due.is("the oldest state of " + changes, x.count(7), Math.max(0, changes - 6));
        }
    }

    private static void roundTheRing(Due due) {
        for (int changes = 6; changes <= 30; changes++) {
            WeldedRelays x = new WeldedRelays();
            for (int life = 1; life <= changes; life++) {
                x.life(life);
            }
            for (int undone = 1; undone <= 6; undone++) {
                due.is("undo() of " + changes, x.undo(), 6 - undone);
                due.is("count(7)", x.count(7), changes - undone);
            }
            due.is("undo() of none", x.undo(), Due.NOT_POSSIBLE);
        }
    }

    /** What was undone is gone; the states below it stay in their order. */
    private static void changesBetweenUndos(Due due) {
        for (int undone = 1; undone <= 6; undone++) {
            for (int anew = 0; anew <= 7; anew++) {
                WeldedRelays x = new WeldedRelays();
                int[] lives = new int[16];
                int made = 0;
                for (int i = 1; i <= 8; i++) {
                    x.life(i);
                    lives[++made] = i;
                }
                for (int i = 0; i < undone; i++) {
                    x.undo();
                    made--;
                }
                for (int i = 0; i < anew; i++) {
                    x.life(50 + i);
                    lives[++made] = 50 + i;
                }
                int kept = Math.min(6, 6 - undone + anew);
                due.is("count(11)", x.count(11), kept);
                for (int left = kept - 1; left >= 0; left--) {
                    due.is("undo() behind " + undone + " and " + anew, x.undo(), left);
                    due.is("count(7) behind " + undone + " and " + anew, x.count(7), lives[--made]);
                }
                due.is("undo() of none", x.undo(), Due.NOT_POSSIBLE);
            }
        }
    }

    /** "records the state before it (also if nothing is different then)" */
    private static void nothingIsDifferent(Due due) {
        for (int number = 0; number < CHANGES_OF_NOTHING.length; number++) {
            WeldedRelays x = Due.room("A=a");
            x.save(1);
            String before = Look.state(x);
            due.is("no error of " + number, CHANGES_OF_NOTHING[number].on(x) >= 0 ? 1 : 0, 1);
            due.is("nothing is different by " + number, Look.state(x).equals(before) ? 1 : 0, 1);
            due.is("count(11) behind " + number, x.count(11), 2);
            due.is("undo() of " + number, x.undo(), 1);
            due.is("undo() of read()", x.undo(), 0);
            due.is("count(8)", x.count(8), 0);
        }
        WeldedRelays full = new WeldedRelays();
        full.life(1);
        for (int i = 0; i < 6; i++) {
            full.life(1);
        }
        for (int left = 5; left >= 0; left--) {
            due.is("undo()", full.undo(), left);
            due.is("they drop the oldest one, too", full.count(7), 1);
        }
    }

    /** "each method that is a change": time, life, read, press, weld, pass, settle, restore */
    private static void eachChangeIsOne(Due due) {
        Twins.Call[] changes = {
            x -> x.time(0, true, 2), x -> x.life(5), x -> Due.read(x, "B=b"), x -> x.press(1, true),
            x -> x.weld(0, true), x -> x.weld(1, false), x -> x.pass(1), x -> x.settle(), x -> x.restore(0),
        };
        for (int number = 0; number < changes.length; number++) {
            WeldedRelays x = Due.room("A=a;B=a");
            x.press(0, true);
            x.settle();
            x.weld(1, true);
            x.save(0);
            due.is("change " + number, changes[number].on(x) >= 0 ? 1 : 0, 1);
            due.is("count(11) behind change " + number, x.count(11), 5);
        }
    }

    /** What the document does not call a change records nothing. */
    private static void whatIsNoChange(Due due) {
        WeldedRelays x = Due.room("A=a");
        x.life(3);
        x.put('A');
        x.fault();
        x.wipe();
        x.wipe();
        x.save(0);
        x.save(1);
        x.relay(0, 0);
        x.branch(0, 0, 0);
        x.count(0);
        x.ifPressed(1, 200);
        x.rest(1, 0);
        x.race(1);
        x.ifWelded(0, 1);
        x.unsafe(0);
        x.reach(0);
        due.is("count(11)", x.count(11), 2);
        due.is("undo()", x.undo(), 1);
        due.is("count(11) behind undo()", x.count(11), 1);
        due.is("count(7)", x.count(7), 0);
    }

    /** "everything except the pad": an emptied one stays empty, a filled one filled. */
    private static void undoLeavesThePad(Due due) {
        WeldedRelays x = Due.room("A=a");
        due.is("undo() of read()", x.undo(), 0);
        due.is("the pad is empty", x.count(10), 0);
        due.is("wipe()", x.wipe(), 0);
        due.is("no circuits", x.count(8), 0);
        x.life(1);
        Due.put(x, "B=b");
        due.is("undo() of life()", x.undo(), 0);
        due.is("the pad stays", x.count(10), 3);
        due.is("read()", x.read(), 1);
        due.is("relay(1, 8)", x.relay(1, 8), 1);
        x.life(1);
        Due.put(x, "C=c");
        x.wipe();
        due.is("undo()", x.undo(), 1);
        due.is("wiped for good", x.count(10), 0);
    }

    /** "except .. the slots" */
    private static void undoLeavesTheSlots(Due due) {
        WeldedRelays x = new WeldedRelays();
        x.life(1);
        x.save(0);
        x.life(2);
        x.save(1);
        x.undo();
        x.undo();
        due.is("count(7)", x.count(7), 0);
        due.is("restore(1)", x.restore(1), 0);
        due.is("count(7) of slot 1", x.count(7), 2);
        due.is("restore(0)", x.restore(0), 0);
        due.is("count(7) of slot 0", x.count(7), 1);
        due.is("count(11)", x.count(11), 2);
    }

    private static void undoOfRestore(Due due) {
        WeldedRelays x = roomBehind(0);
        x.save(0);
        for (int i = 0; i < 8; i++) {
            CHANGES[i].on(x);
        }
        due.is("restore(0)", x.restore(0), Due.relays("A"));
        same(due, "as saved", x, roomBehind(0));
        due.is("the history is not restored", x.count(11), 6);
        due.is("undo()", x.undo(), 5);
        same(due, "as before restore()", x, roomBehind(8));
    }

    /** "NOT_POSSIBLE if nothing was saved in it" */
    private static void nothingSaved(Due due) {
        for (int slot = 0; slot < 2; slot++) {
            WeldedRelays x = new WeldedRelays();
            due.is("restore(" + slot + ")", x.restore(slot), Due.NOT_POSSIBLE);
            due.is("save() of the other", x.save(1 - slot), 0);
            due.is("restore(" + slot + ") again", x.restore(slot), Due.NOT_POSSIBLE);
            due.is("no change", x.count(11), 0);
            due.is("save() of a new room", x.save(slot), 0);
            due.is("restore() of a new room", x.restore(slot), 0);
            due.is("one change", x.count(11), 1);
        }
    }

    /** "overwrites what was saved there" */
    private static void overwritten(Due due) {
        for (int slot = 0; slot < 2; slot++) {
            WeldedRelays x = Due.room("A=a+b+c+d+e+f;J=a");
            x.press(0, true);
            x.settle();
            due.is("save() of much", x.save(slot), 513);
            Due.read(x, "A=b");
            x.press(0, false);
            x.settle();
            due.is("save() of less", x.save(slot), 0);
            String saved = Look.state(x);
            x.undo();
            x.undo();
            x.undo();
            due.is("restore()", x.restore(slot), 0);
            due.is("what was saved last", Look.state(x).equals(saved) ? 1 : 0, 1);
            due.is("no old branch", x.branch(0, 1, 0), Due.NO_SUCH);
        }
    }

    /** "Restores what was saved last in a slot, which keeps it." */
    private static void slotKeepsIt(Due due) {
        WeldedRelays x = roomBehind(0);
        x.save(1);
        String saved = Look.state(x);
        for (int i = 0; i < 3; i++) {
            Due.read(x, "A=b;B=c");
            x.press(1, true);
            x.pass(4);
            due.is("restore(1)", x.restore(1), Due.relays("A"));
            due.is("all is as saved", Look.state(x).equals(saved) ? 1 : 0, 1);
            x.pass(4);
        }
    }

    /** "Saves everything except the pad, the history and the slots" */
    private static void saveTakesEverything(Due due) {
        for (int changes = 0; changes <= CHANGES.length; changes++) {
            WeldedRelays x = roomBehind(changes);
            int up = x.count(0);
            due.is("save(0) behind " + changes, x.save(0), up);
            for (int i = 0; i < 6; i++) {
                x.undo();
            }
            x.pass(7);
            due.is("restore(0) behind " + changes, x.restore(0), up);
            same(due, "as saved behind " + changes, x, roomBehind(changes));
        }
    }

    private static void saveLeavesPadAndHistory(Due due) {
        WeldedRelays x = Due.room("A=a");
        Due.put(x, "B=b");
        x.save(0);
        due.is("the pad behind save()", x.count(10), 3);
        due.is("the history behind save()", x.count(11), 1);
        x.wipe();
        Due.put(x, "C=!c");
        x.life(4);
        x.restore(0);
        due.is("the pad behind restore()", x.count(10), 4);
        due.is("the history behind restore()", x.count(11), 3);
        due.is("read()", x.read(), 2);
        due.is("branch(2, 0, 5)", x.branch(2, 0, 5), Due.buttons("c"));
        x.save(1);
        x.restore(0);
        due.is("a slot holds no slots", x.restore(1), 0);
        due.is("count(8)", x.count(8), 2);
    }
}
