/** Promises 21 to 23. */
public final class UndoSaveTest {
    public static void main(String[] args) {
        Due due = new Due("UndoSaveTest");
        undoErrors(due);
        sixStates(due);
        notRecorded(due);
        whatUndoLeaves(due);
        save(due);
        restore(due);
        slotsOfTheirOwn(due);
        due.end();
    }

    private static void undoErrors(Due due) {
        WeldedRelays x = new WeldedRelays();
        due.is("undo()", x.undo(), Due.NOT_POSSIBLE);
        due.is("settle()", x.settle(), 0);
        due.is("undo() of a change of nothing", x.undo(), 0);
        due.is("undo()", x.undo(), Due.NOT_POSSIBLE);
    }

    private static void sixStates(Due due) {
        WeldedRelays x = new WeldedRelays();
        for (int life = 1; life <= 20; life++) {
            x.life(life);
            due.is("count(11)", x.count(11), Math.min(6, life));
        }
        for (int left = 5; left >= 0; left--) {
            due.is("undo()", x.undo(), left);
            due.is("count(7)", x.count(7), 14 + left);
        }
        due.is("undo()", x.undo(), Due.NOT_POSSIBLE);
        due.is("count(7)", x.count(7), 14);
        x.life(50);
        x.life(51);
        due.is("undo()", x.undo(), 1);
        x.life(52);
        due.is("undo()", x.undo(), 1);
        due.is("count(7)", x.count(7), 50);
        due.is("undo()", x.undo(), 0);
        due.is("count(7)", x.count(7), 14);
    }

    private static void notRecorded(Due due) {
        WeldedRelays x = Due.room("A=a");
        x.time(10, true, 1);
        x.life(100);
        x.read();
        x.press(0, false);
        x.weld(0, true);
        x.pass(0);
        x.restore(0);
        x.restore(2);
        due.is("errors are no changes", x.count(11), 1);
        x.save(1);
        x.save(2);
        Due.put(x, "A=b");
        x.fault();
        x.wipe();
        x.ifPressed(1, 5);
        x.rest(1, 0);
        x.race(1);
        x.reach(0);
        x.unsafe(0);
        x.ifWelded(1, 0);
        due.is("nor are these", x.count(11), 1);
        x.restore(1);
        due.is("restore() is one", x.count(11), 2);
        x.time(0, false, 2);
        due.is("time() to the same is one", x.count(11), 3);
    }

    private static void whatUndoLeaves(Due due) {
        WeldedRelays x = Due.room("A=a");
        Due.put(x, "B=b");
        x.press(0, true);
        due.is("undo()", x.undo(), 1);
        due.is("the pad stays", x.count(10), 3);
        due.is("read()", x.read(), 2);
        due.is("undo()", x.undo(), 1);
        due.is("read() is undone", x.count(8), 1);
        due.is("but the pad is empty still", x.count(10), 0);
        x.press(0, true);
        x.settle();
        x.save(0);
        x.undo();
        x.undo();
        due.is("down again", x.count(0), 0);
        due.is("the slot stays", x.restore(0), 1);
    }

    private static void save(Due due) {
        WeldedRelays x = Due.room("A=a;B=!a");
        due.is("save(-1)", x.save(-1), Due.BAD_VALUE);
        due.is("save(2)", x.save(2), Due.BAD_VALUE);
        x.settle();
        due.is("save(0)", x.save(0), Due.relays("B"));
        x.press(0, true);
        x.settle();
        due.is("save(0) over it", x.save(0), Due.relays("A"));
        x.press(0, false);
        x.settle();
        due.is("restore(0)", x.restore(0), Due.relays("A"));
        due.is("restore(1)", x.restore(1), Due.NOT_POSSIBLE);
    }

    private static void restore(Due due) {
        WeldedRelays x = Due.room("A=a;B=A!b");
        due.is("restore(-1)", x.restore(-1), Due.BAD_VALUE);
        due.is("restore(2)", x.restore(2), Due.BAD_VALUE);
        due.is("restore(1)", x.restore(1), Due.NOT_POSSIBLE);
        x.time(3, true, 4);
        x.life(1);
        x.press(0, true);
        x.pass(3);
        x.save(1);
        String saved = Look.state(x);
        x.press(1, true);
        x.weld(0, false);
        x.life(0);
        x.time(3, true, 5);
        Due.read(x, "A=0;B=0;C=!C");
        x.pass(77);
        Due.put(x, "A=");
        String before = Look.state(x);
        due.is("restore(1)", x.restore(1), 1);
        due.is("all is back", Look.state(x).equals(saved) ? 1 : 0, 1);
        due.is("the pad stays", x.count(10), 2);
        due.is("the history stays", x.count(11), 6);
        due.is("restore(1) again", x.restore(1), 1);
        x.undo();
        x.undo();
        due.is("undone", Look.state(x).equals(before) ? 1 : 0, 1);
        due.is("the slot keeps it", x.restore(1), 1);
        x.pass(50);
        due.is("the slot does not move along", x.restore(1), 1);
        due.is("all is back", Look.state(x).equals(saved) ? 1 : 0, 1);
    }

    private static void slotsOfTheirOwn(Due due) {
        WeldedRelays x = Due.room("A=a");
        x.save(0);
        x.press(0, true);
        x.settle();
        x.save(1);
        due.is("restore(0)", x.restore(0), 0);
        due.is("restore(1)", x.restore(1), 1);
        due.is("restore(0)", x.restore(0), 0);
    }
}
