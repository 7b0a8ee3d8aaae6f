/**
 * Tells whether a call changes anything: a room on which it is made is compared with one, made in the
 * same way, on which it is not. What cannot be asked (the text of the pad, the states of the history,
 * the slots) is looked at by the calls that bring it out, each on rooms of its own.
 */
final class Twins {
    interface Maker {
        WeldedRelays make();
    }

    interface Call {
        int on(WeldedRelays x);
    }

    private static final int LOOKS = 10;

    private final Due due;
    private final String name;
    private final Maker maker;
    private final String endOfText;
    private final String[] untouched = new String[LOOKS];

    /** Arguments: what makes the text of the pad one without a fault is the last one. */
    Twins(Due due, String name, Maker maker, String endOfText) {
        this.due = due;
        this.name = name;
        this.maker = maker;
        this.endOfText = endOfText;
        for (int look = 0; look < LOOKS; look++) {
            untouched[look] = look(look, maker.make());
        }
    }

    void refuses(String call, int code, Call refused) {
        due.is(name + ", " + call, refused.on(maker.make()), code);
        keeps(call, refused);
    }

    void keeps(String call, Call other) {
        for (int look = 0; look < LOOKS; look++) {
            WeldedRelays x = maker.make();
            other.on(x);
            boolean isSame = look(look, x).equals(untouched[look]);
            due.is(name + ", look " + look + " behind " + call + " is as before", isSame ? 1 : 0, 1);
        }
    }

    private String look(int look, WeldedRelays x) {
        switch (look) {
            case 0:
                return Look.all(x);
            case 1:
                return Due.put(x, endOfText) + " " + x.read() + " " + Look.all(x);
            case 2:
            case 3:
                return x.restore(look - 2) + " " + Look.all(x);
            default:
                StringBuilder undone = new StringBuilder();
                for (int i = 4; i <= look; i++) {
                    undone.append(x.undo()).append(' ');
                }
                return undone + Look.all(x);
        }
    }
}
