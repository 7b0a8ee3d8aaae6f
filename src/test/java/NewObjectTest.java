/** Promise 1, and the constants. */
public final class NewObjectTest {
    public static void main(String[] args) {
        Due due = new Due("NewObjectTest");
        constants(due);
        emptyRoom(due);
        objectsOfTheirOwn(due);
        due.end();
    }

    private static void constants(Due due) {
        due.is("NO_SUCH", WeldedRelays.NO_SUCH, -1);
        due.is("BAD_VALUE", WeldedRelays.BAD_VALUE, -2);
        due.is("BAD_TEXT", WeldedRelays.BAD_TEXT, -3);
        due.is("TOO_MANY", WeldedRelays.TOO_MANY, -4);
        due.is("NOT_POSSIBLE", WeldedRelays.NOT_POSSIBLE, -5);
        due.is("NONE", WeldedRelays.NONE, -6);
    }

    private static void emptyRoom(Due due) {
        WeldedRelays x = new WeldedRelays();
        for (int what = 0; what < 12; what++) {
            due.is("count(" + what + ")", x.count(what), 0);
        }
        int[] atFirst = {0, 0, 0, 0, 0, 0, 2, 1, 0, 0, 0};
        for (int relay = 0; relay < 10; relay++) {
            for (int what = 0; what < atFirst.length; what++) {
                due.is("relay(" + relay + ", " + what + ")", x.relay(relay, what), atFirst[what]);
            }
            due.is("branch(" + relay + ", 0, 0)", x.branch(relay, 0, 0), Due.NO_SUCH);
        }
        due.is("fault()", x.fault(), 0);
        due.is("undo()", x.undo(), Due.NOT_POSSIBLE);
        due.is("restore(0)", x.restore(0), Due.NOT_POSSIBLE);
        due.is("restore(1)", x.restore(1), Due.NOT_POSSIBLE);
        due.is("settle()", x.settle(), 0);
    }

    private static void objectsOfTheirOwn(Due due) {
        WeldedRelays x = Due.room("A=a");
        WeldedRelays y = new WeldedRelays();
        x.press(0, true);
        x.settle();
        x.save(0);
        due.is("count(0) of the first", x.count(0), 1);
        due.is("count(0) of the second", y.count(0), 0);
        due.is("count(8) of the second", y.count(8), 0);
        due.is("restore(0) of the second", y.restore(0), Due.NOT_POSSIBLE);
    }
}
