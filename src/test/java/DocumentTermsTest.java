import java.io.IOException;

/** The document from its first line up to promise 1: each sentence, and answers that hold to it. */
public final class DocumentTermsTest {
    private static final Document DOC = new Document("DocumentTermsTest");

    public static void main(String[] args) throws IOException {
        whatItIs();
        conventions();
        relaysAndButtons();
        circuits();
        tick();
        rest();
        texts();
        fault();
        interfaceGroups();
        DOC.end("## Promise 1: A new object");
    }

    private static void whatItIs() {
        DOC.heading("# WeldedRelays");
        DOC.heading("## What it is");
        DOC.says("A relay room: relays whose coils are fed by contacts of other relays and of buttons, coils that pick "
                + "up slower than they drop, relays that hold themselves, contacts that weld by wear or by chance, "
                + "ticks in which all relays move at once, rooms that come to rest or never do, what buttons would "
                + "bring, races that hang on the times of relays, relays by whose welding another one would stay up "
                + "with all buttons off, circuits that are read from texts, undo, and saved states.");
        WeldedRelays x = Due.room("A=a;B=A+B;C=!aB;D=b!D");
        DOC.is("slower", x.relay(0, 6) - x.relay(0, 7), 1);
        DOC.is("what buttons would bring", x.ifPressed(1, 4), Due.relays("AB"));
        DOC.is("it never comes to rest", x.rest(2, 0), Due.NONE);
        DOC.is("by a button", x.press(0, true), Due.relays("A"));
        DOC.is("by another relay", x.settle(), 4);
        DOC.is("stays up", x.unsafe(2), 1019);
        x.press(0, false);
        DOC.is("all at once", x.pass(2), 2);
        DOC.is("B holds itself", x.count(0), Due.relays("BC"));
        DOC.is("by chance", x.weld(2, true), 1);
        x.undo();
        DOC.is("undo", x.count(2), 0);
        x.life(2);
        x.save(0);
        x.press(1, true);
        DOC.is("by wear", x.settle(), 5);
        DOC.is("by wear", x.count(2), Due.relays("D"));
        x.restore(0);
        DOC.is("saved states", x.count(2), 0);
        DOC.is("a race", Due.room("A=a!B;B=a;C=A+C").race(1), 1);
        DOC.says("An object is used for at most 512 calls after it has been made; what later calls answer is free.");
        WeldedRelays y = new WeldedRelays();
        y.put(0x413D61L);
        y.read();
        for (int call = 4; call <= 512; call += 2) {
            y.press(0, call % 4 == 0);
            DOC.is("call " + call, y.pass(2), 1);
        }
    }

    private static WeldedRelays roomWithoutRest() {
        WeldedRelays x = Due.room("A=!A");
        Due.put(x, "A=a;");
        return x;
    }

    private static void conventions() {
        DOC.heading("## The public face");
        DOC.heading("## Terms");
        DOC.leavesFree("CONVENTIONS.");
        DOC.says("A method that fails returns one of the error codes NO_SUCH (-1), BAD_VALUE (-2), BAD_TEXT (-3), "
                + "TOO_MANY (-4) and NOT_POSSIBLE (-5); it names its errors in the order in which they are checked, "
                + "and the first one that applies is returned.");
        WeldedRelays x = roomWithoutRest();
        DOC.is("time(10, true, 0)", x.time(10, true, 0), -1);
        DOC.is("time(9, true, 0)", x.time(9, true, 0), -2);
        DOC.is("read()", x.read(), -3);
        DOC.is("press(6, false)", x.press(6, false), -1);
        DOC.is("press(5, false)", x.press(5, false), -5);
        DOC.is("weld(10, false)", x.weld(10, false), -1);
        DOC.is("relay(-1, 11)", x.relay(-1, 11), -1);
        DOC.is("branch(0, 1, 6)", x.branch(0, 1, 6), -1);
        DOC.is("branch(0, 0, 6)", x.branch(0, 0, 6), -2);
        DOC.is("ifWelded(10, 10)", x.ifWelded(10, 10), -1);
        DOC.is("restore(2)", x.restore(2), -2);
        DOC.is("undo()", Due.room().undo(), -5);
        DOC.is("put() of 60 more", Due.put(x, "+".repeat(60)), 64);
        DOC.is("put(32)", x.put(32), -2);
        DOC.is("put(33)", x.put(33), -4);
        DOC.says("A call that returns an error changes nothing.");
        DOC.changesNothing(DocumentTermsTest::roomWithoutRest, y -> y.time(10, true, 5), y -> y.time(0, true, 10),
                y -> y.life(100), y -> y.read(), y -> y.press(6, true), y -> y.press(0, false), y -> y.weld(10, true),
                y -> y.weld(0, true), y -> y.weld(0, false), y -> y.pass(0), y -> y.pass(201), y -> y.put(0x4100),
                y -> y.save(2), y -> y.restore(0), y -> y.restore(2));
        DOC.says("NONE (-6) is not an error; it is returned only if no error applies.");
        WeldedRelays y = roomWithoutRest();
        DOC.is("rest(0, 0)", y.rest(0, 0), -6);
        DOC.is("rest(0, 3)", y.rest(0, 3), -2);
        DOC.is("rest(64, 0)", y.rest(64, 0), -2);
        DOC.is("ifWelded(0, 1)", y.ifWelded(0, 1), -6);
        DOC.is("ifWelded(1, 1)", y.ifWelded(1, 1), -2);
        DOC.is("ifWelded(1, 10)", y.ifWelded(1, 10), -1);
        DOC.is("reach(0)", y.reach(0), -6);
        DOC.is("reach(10)", y.reach(10), -1);
        DOC.says("Everything is numbered from 0.");
        WeldedRelays z = Due.room("A=aA+bB");
        DOC.is("branch(0, 0, 4)", z.branch(0, 0, 4), Due.buttons("a"));
        DOC.is("branch(0, 1, 4)", z.branch(0, 1, 4), Due.buttons("b"));
        DOC.is("press(0, true)", z.press(0, true), 0);
        DOC.is("count(4)", z.count(4), Due.buttons("a"));
        DOC.is("save(0)", z.save(0), 0);
        z.put(';');
        DOC.is("fault()", z.fault(), 0);
        DOC.says("Sets of relays and of buttons are bit masks.");
        WeldedRelays sets = Due.room("A=f;C=f;J=f");
        DOC.is("relays", sets.press(5, true), 1 + 4 + 512);
        sets.press(1, true);
        DOC.is("buttons", sets.count(4), 2 + 32);
        DOC.is("a set that is told", sets.rest(63 - 32, 1), 0);
        DOC.is("a set that is told", sets.rest(32, 0), 517);
    }

    private static void relaysAndButtons() {
        DOC.leavesFree("Relays, buttons, circuits");
        DOC.says("There are 10 relays, A to J (0 to 9), and 6 buttons, a to f (0 to 5).");
        WeldedRelays x = Due.room("A=a;B=b;C=c;D=d;E=e;F=f;G=a;H=b;I=c;J=d");
        for (int relay = 0; relay < 10; relay++) {
            DOC.is("branch(" + relay + ", 0, 4)", x.branch(relay, 0, 4), 1 << relay % 6);
        }
        DOC.is("relay(10, 0)", x.relay(10, 0), Due.NO_SUCH);
        DOC.is("press(6, true)", x.press(6, true), Due.NO_SUCH);
        for (int button = 0; button < 6; button++) {
            DOC.is("by " + button, x.rest(1 << button, 0), 1 << button | (button < 4 ? 64 << button : 0));
        }
        DOC.says("A relay is up or down (all are down at first); it has a time to pick up (1 to 9; 2 at first) and a "
                + "time to drop (1 to 9; 1 at first), in ticks, and is welded or not (not at first).");
        WeldedRelays y = Due.room("A=a");
        for (int relay = 0; relay < 10; relay++) {
            DOC.is("down", y.relay(relay, 0), 0);
            DOC.is("not welded", y.relay(relay, 2), 0);
            DOC.is("time to pick up", y.relay(relay, 6), 2);
            DOC.is("time to drop", y.relay(relay, 7), 1);
        }
        for (int time = 1; time <= 9; time++) {
            y.time(0, false, time);
            y.time(0, true, 10 - time);
            y.press(0, true);
            DOC.is("ticks to pick up", y.settle(), time);
            y.press(0, false);
            DOC.is("ticks to drop", y.settle(), 10 - time);
        }
        DOC.says("A button is on or off (off at first).");
        WeldedRelays z = new WeldedRelays();
        for (int button = 0; button < 6; button++) {
            DOC.is("off", z.press(button, false), Due.NOT_POSSIBLE);
            z.press(button, true);
            DOC.is("on", z.count(4) >> button, 1);
        }
    }

    private static void circuits() {
        DOC.says("The circuit of a relay is a row of up to 6 branches; a branch is a row of 1 to 8 contacts.");
        WeldedRelays x = Due.room("A=a+b+c+d+e+ffffffff");
        for (int branch = 0; branch < 6; branch++) {
            DOC.is("branch " + branch, x.branch(0, branch, 4), 1 << branch);
            DOC.is("contacts of " + branch, x.branch(0, branch, 1), branch < 5 ? 1 : 8);
        }
        DOC.is("seven branches", Due.read(x, "A=a+a+a+a+a+a+a"), Due.BAD_TEXT);
        x.wipe();
        DOC.is("nine contacts", Due.read(x, "A=aaaaaaaaa"), Due.BAD_TEXT);
        x.wipe();
        DOC.is("no contact", Due.read(x, "A=a+"), Due.BAD_TEXT);
        DOC.says("A contact is of a relay or of a button, and is a front contact, which is closed if the relay is up, "
                + "or the button on, or a back contact, which is closed if it is down, or off.");
        WeldedRelays y = Due.room("A=a;B=A+!A+b+!b");
        for (int step = 0; step < 2; step++) {
            DOC.is("front contact of a relay", y.branch(1, 0, 0), step);
            DOC.is("back contact of a relay", y.branch(1, 1, 0), 1 - step);
            DOC.is("front contact of a button", y.branch(1, 2, 0), step);
            DOC.is("back contact of a button", y.branch(1, 3, 0), 1 - step);
            y.press(0, true);
            y.pass(2);
            y.press(1, true);
        }
        DOC.says("A branch is closed if all of its contacts are.");
        WeldedRelays z = Due.room("J=abc!d");
        for (int buttons = 0; buttons < 16; buttons++) {
            DOC.is("with " + buttons, z.rest(buttons, 0), buttons == 7 ? Due.relays("J") : 0);
        }
        DOC.says("A relay is fed if a branch of its circuit is closed.");
        WeldedRelays fed = Due.room("J=a+b+!c");
        for (int buttons = 0; buttons < 8; buttons++) {
            DOC.is("with " + buttons, fed.rest(buttons, 0), buttons == 4 ? 0 : Due.relays("J"));
        }
        DOC.says("(A relay without branches is never fed; at first no relay has any.)");
        DOC.is("at first", new WeldedRelays().count(8), 0);
        DOC.is("reach(9)", new WeldedRelays().reach(9), Due.NONE);
        DOC.is("never", Due.room("A=!a;B=0").count(1), Due.relays("A"));
    }

    private static void tick() {
        DOC.heading("### A tick");
        DOC.says("In a tick it is looked at which relays are fed, by all relays and buttons as they are at its "
                + "beginning.");
        WeldedRelays x = Due.room("A=!B;B=!A;C=A;D=C");
        DOC.is("A and B pick up", x.pass(2), 2);
        DOC.is("A and B drop", x.pass(1), 2);
        DOC.is("C saw A for one tick", x.count(0), 0);
        x.time(2, false, 1);
        x.time(3, false, 1);
        DOC.is("A and B again", x.pass(2), 2);
        DOC.is("they drop, C picks up, D did not see it", x.pass(1), 3);
        DOC.is("C", x.count(0), Due.relays("C"));
        DOC.is("C drops, D picks up", x.pass(1), 2);
        DOC.is("D", x.count(0), Due.relays("D"));
        DOC.says("A relay that is fed and down, or not fed and up, wants to move, but one that is up and welded does "
                + "not.");
        WeldedRelays y = Due.room("A=a;B=a;C=a;D=!a");
        DOC.is("D is fed and down", y.count(3), Due.relays("D"));
        y.press(0, true);
        DOC.is("A, B and C are, D is neither", y.count(3), Due.relays("ABC"));
        y.settle();
        DOC.is("none", y.count(3), 0);
        y.weld(1, true);
        DOC.is("A and C are not fed and up, B is welded", y.press(0, false), Due.relays("ACD"));
        DOC.says("The wait of a relay (0 at first) becomes 1 more if it wants to move, otherwise 0.");
        WeldedRelays z = Due.room("A=a");
        z.time(0, false, 9);
        z.press(0, true);
        for (int wait = 0; wait < 9; wait++) {
            DOC.is("wait", z.relay(0, 4), wait);
            z.pass(1);
        }
        z.undo();
        z.press(0, false);
        DOC.is("wait ahead of the tick", z.relay(0, 4), 8);
        z.pass(1);
        DOC.is("wait behind it", z.relay(0, 4), 0);
        moves();
        operations();
    }

    private static void moves() {
        DOC.says("Each relay whose wait is its time to pick up or more (if it is down), or its time to drop or more "
                + "(if it is up), moves: it is up, or down, then, and its wait is 0.");
        WeldedRelays x = Due.room("A=a;B=!a");
        x.settle();
        x.time(0, false, 4);
        x.time(1, true, 5);
        x.press(0, true);
        DOC.is("three ticks", x.pass(3), 0);
        DOC.is("A moves in the fourth", x.pass(1), 1);
        DOC.is("it is up", x.count(0), Due.relays("AB"));
        DOC.is("its wait", x.relay(0, 4), 0);
        x.time(1, true, 1);
        DOC.is("the time of B is less than its wait of", x.relay(1, 4), 4);
        DOC.is("B moves", x.pass(1), 1);
        DOC.is("it is down", x.count(0), Due.relays("A"));
        DOC.is("its wait", x.relay(1, 4), 0);
    }

    private static void operations() {
        DOC.says("A relay that picks up has one operation more; if LIFE is not 0, and its operations are LIFE or more "
                + "then, it is welded from then on.");
        WeldedRelays x = Due.room("A=!A");
        x.time(0, false, 1);
        for (int tick = 1; tick <= 10; tick++) {
            x.pass(1);
            DOC.is("operations behind tick " + tick, x.relay(0, 5), (tick + 1) / 2);
            DOC.is("not welded", x.count(2), 0);
        }
        x.life(7);
        DOC.is("the sixth up, and down", x.pass(2), 2);
        DOC.is("not welded by the sixth", x.count(2), 0);
        DOC.is("the seventh", x.pass(1), 1);
        DOC.is("welded by the seventh", x.count(2), 1);
        DOC.is("from then on", x.pass(200), 0);
        x.undo();
        x.undo();
        x.life(3);
        DOC.is("the seventh of three", x.pass(1), 1);
        DOC.is("welded by more than LIFE", x.count(2), 1);
    }

    private static void rest() {
        DOC.says("The room is at rest if no relay wants to move.");
        WeldedRelays x = Due.room("A=a;B=A");
        DOC.is("at rest", x.settle(), 0);
        x.press(0, true);
        x.pass(3);
        DOC.is("B wants to move", x.count(3), Due.relays("B"));
        DOC.is("not at rest", x.settle(), 1);
        DOC.is("at rest", x.settle(), 0);
        DOC.says("It comes to rest from how it is if it is at rest behind some number of ticks, at most 200 (0, if it "
                + "is at rest already).");
        DOC.is("0 ticks", x.rest(1, 1), 0);
        DOC.is("199 ticks", Due.wearsOut(1, 2, 67).rest(0, 1), 199);
        DOC.is("200 ticks", Due.wearsOut(2, 1, 67).rest(0, 1), 200);
        WeldedRelays y = Due.wearsOut(1, 4, 41);
        DOC.is("201 ticks", y.rest(0, 1), Due.NONE);
        y.pass(1);
        DOC.is("200 from how it is", y.rest(0, 1), 200);
        DOC.says("LIFE is a setting, 0 to 99 (0 at first).");
        WeldedRelays z = new WeldedRelays();
        DOC.is("at first", z.count(7), 0);
        DOC.is("life(99)", z.life(99), 0);
        DOC.is("count(7)", z.count(7), 99);
        DOC.is("life(100)", z.life(100), Due.BAD_VALUE);
        DOC.is("life(-1)", z.life(-1), Due.BAD_VALUE);
        DOC.is("life(0)", z.life(0), 99);
    }

    private static void texts() {
        DOC.heading("### Texts");
        DOC.says("The pad is a text of at most 64 characters, circuits: text = circuit { \";\" circuit }; circuit = "
                + "relay \"=\" ( \"0\" | branch { \"+\" branch } ); branch = contact { contact }; contact = [ \"!\" ] "
                + "( relay | button ); \"!\" means a back contact; \"0\" that there are no branches.");
        String[] good = {"A=0", "J=f", "J=!J", "A=aB", "A=a+b", "A=a;B=0", "A=0;A=0", "A=!a!B+cD;B=e+!f+J"};
        for (String text : good) {
            faultOf(text, Due.NONE);
        }
        faultOf("A=a;".repeat(15) + "A=!a", Due.NONE);
        WeldedRelays x = Due.room("A=a;B=a;C=0", "B=0;A=!aB+c");
        DOC.is("no branches", x.relay(1, 8), 0);
        DOC.is("two branches", x.relay(0, 8), 2);
        DOC.is("a back contact", x.branch(0, 0, 5), Due.buttons("a"));
        DOC.is("a front contact behind it", x.branch(0, 0, 2), Due.relays("B"));
        DOC.is("another branch", x.branch(0, 1, 4), Due.buttons("c"));
        Due.put(x, "A=a;".repeat(16));
        DOC.is("64 characters", x.count(10), 64);
        DOC.is("one more", x.put('A'), Due.TOO_MANY);
        DOC.says("There are at most 6 branches in a circuit and 8 contacts in a branch.");
        faultOf("A=a+a+a+a+a+a", Due.NONE);
        faultOf("A=a+a+a+a+a+a+a", 13);
        faultOf("A=abcdef!A!B", Due.NONE);
        faultOf("A=abcdef!A!BC", 12);
        faultOf("A=abcdefab+abcdefab+a+a+a+abcdefab;A=abcdefab", Due.NONE);
    }

    private static void faultOf(String text, int want) {
        WeldedRelays x = new WeldedRelays();
        Due.put(x, text);
        DOC.is("fault() of " + text, x.fault(), want);
    }

    private static void fault() {
        DOC.says("The fault is the index of the first character that cannot stand at its place when the text is read "
                + "from left to right (also a contact or a \"+\" by which there would be too many); if there is none "
                + "and the text ends too early (also if it is empty), it is the length of the text.");
        String[] texts = {
            "", "b=0", "=", "K=a", "A", "AA", "A=", "A=+", "A=1", "A=g", "A=0", "A=00", "A=0+a", "A=0;", "A=a",
            "A=a0", "A=a=", "A=a;", "A=a;;", "A=a;a", "A=!", "A=!!a", "A=!0", "A=a!", "A=a+", "A=a++", "A=a+0",
            "A=a+!", "A=k;k",
        };
        int[] wants = {
            0, 0, 0, 0, 1, 1, 2, 2, 2, 2, -6, 3, 3, 4, -6,
            3, 3, 4, 4, 4, 3, 3, 3, 4, 4, 4, 4,
            5, 2,
        };
        for (int i = 0; i < texts.length; i++) {
            faultOf(texts[i], wants[i]);
        }
        faultOf("A=!a!a!a!a!a!a!a!a", Due.NONE);
        faultOf("A=!a!a!a!a!a!a!a!aB", 18);
        faultOf("A=!a!a!a!a!a!a!a!a!B", 18);
        faultOf("A=a+a+a+a+a+!a+!a", 14);
        faultOf("A=a+a+a+a+a+a+a;k", 13);
    }

    private static void interfaceGroups() {
        DOC.says("The constants: `NO_SUCH = -1, BAD_VALUE = -2, BAD_TEXT = -3, TOO_MANY = -4, NOT_POSSIBLE = -5, NONE "
                + "= -6`: Error codes, and NONE: there is none.");
        DOC.is("NO_SUCH", WeldedRelays.NO_SUCH, -1);
        DOC.is("BAD_VALUE", WeldedRelays.BAD_VALUE, -2);
        DOC.is("BAD_TEXT", WeldedRelays.BAD_TEXT, -3);
        DOC.is("TOO_MANY", WeldedRelays.TOO_MANY, -4);
        DOC.is("NOT_POSSIBLE", WeldedRelays.NOT_POSSIBLE, -5);
        DOC.is("NONE", WeldedRelays.NONE, -6);
        DOC.says("Ahead of the calls `time`, `life`, `read`, `press`, `weld`, `pass`, `settle` the interface says: "
                + "---- changes.");
        DOC.isChange(DocumentTermsTest::busyRoom, x -> x.time(0, true, 5), x -> x.life(5), x -> x.read(),
                x -> x.press(1, true), x -> x.weld(0, true), x -> x.pass(5), x -> x.settle());
        DOC.says("Ahead of the calls `relay`, `branch`, `count` the interface says: ---- what there is; nothing "
                + "changes.");
        DOC.changesNothing(DocumentTermsTest::busyRoom, x -> x.relay(0, 3), x -> x.branch(0, 1, 0), x -> x.count(9));
        DOC.says("Ahead of the calls `ifPressed`, `rest`, `race`, `ifWelded`, `unsafe`, `reach` the interface says: "
                + "---- what if; nothing changes.");
        DOC.changesNothing(DocumentTermsTest::busyRoom, x -> x.ifPressed(2, 99), x -> x.rest(2, 2), x -> x.race(2),
                x -> x.ifWelded(0, 1), x -> x.unsafe(0), x -> x.reach(1));
        DOC.says("Ahead of the calls `put`, `wipe`, `fault` the interface says: ---- texts.");
        Twins.Call[] texts = {x -> x.put('+'), x -> x.wipe(), x -> x.fault()};
        for (Twins.Call text : texts) {
            WeldedRelays x = busyRoom();
            String before = Look.state(x);
            text.on(x);
            DOC.is("the room stays", Look.state(x).equals(before) ? 1 : 0, 1);
            DOC.is("no change", x.count(11), 4);
        }
        DOC.says("Ahead of the calls `undo`, `save`, `restore` the interface says: ---- undo, saving.");
        WeldedRelays x = busyRoom();
        String before = Look.state(x);
        x.save(0);
        x.pass(9);
        x.restore(0);
        DOC.is("saved", Look.state(x).equals(before) ? 1 : 0, 1);
        x.undo();
        x.undo();
        DOC.is("undone", Look.state(x).equals(before) ? 1 : 0, 1);
    }

    /** A is up, B waits, J never rests; a is on; four changes; the pad has no fault. */
    private static WeldedRelays busyRoom() {
        WeldedRelays x = Due.room("A=a+bA;B=A!b;J=!A!J");
        x.life(9);
        x.press(0, true);
        x.pass(3);
        Due.put(x, "A=b;C=!c");
        return x;
    }
}
