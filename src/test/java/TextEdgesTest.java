/** The edges of put, wipe, fault and read, and of the texts. */
public final class TextEdgesTest {
    private static final int BITS = 8;

    public static void main(String[] args) {
        Due due = new Due("TextEdgesTest");
        oneToEightCharacters(due);
        eachCodeAtEachPlace(due);
        gaps(due);
        theirOrder(due);
        eachLengthOfThePad(due);
        badAheadOfTooMany(due);
        fullPad(due);
        wipeEmptyAndFull(due);
        emptyText(due);
        lettersOfRelays(due);
        lettersOfContacts(due);
        zeroToSixBranches(due);
        branchesOfTwoCircuits(due);
        zeroToEightContacts(due);
        contactsOfTwoBranches(due);
        endsTooEarly(due);
        firstOfTwoFaults(due);
        faultChangesNothing(due);
        readTakesAllOrNothing(due);
        readOfSeveral(due);
        readCounts(due);
        readEmptiesThePad(due);
        readLeavesTheRest(due);
        due.end();
    }

    // ---- put, wipe

    /** "characters: 1 to 8 characters" */
    private static void oneToEightCharacters(Due due) {
        due.is("no character", new WeldedRelays().put(0), Due.BAD_VALUE);
        for (int count = 1; count <= 8; count++) {
            String text = "A=abcdef".substring(8 - count);
            WeldedRelays x = new WeldedRelays();
            due.is("put() of " + count, x.put(Due.packed(text)), count);
            due.is("count(10)", x.count(10), count);
        }
    }

    /** "a code is not 33 to 126", with good ones above and below it */
    private static void eachCodeAtEachPlace(Due due) {
        for (int count = 1; count <= 8; count++) {
            long others = 0x4141414141414141L >>> (8 - count) * BITS;
            for (int place = 0; place < count; place++) {
                WeldedRelays x = new WeldedRelays();
                for (int code : new int[] {1, 31, 32, 127, 128, 161, 193, 254, 255}) {
                    due.is("code " + code + " at " + place + " of " + count,
                            x.put(with(others, place, code)), Due.BAD_VALUE);
                }
                due.is("no character of them", x.count(10), 0);
                for (int code : new int[] {33, 126, 64, 97}) {
                    x.wipe();
                    due.is("code " + code + " at " + place + " of " + count,
                            x.put(with(others, place, code)), count);
                }
            }
        }
    }

    private static long with(long others, int place, long code) {
        return others & ~(255L << place * BITS) | code << place * BITS;
    }

    /** "8 bits that are 0 mean that there are no more characters, and everything above them has to be 0, too" */
    private static void gaps(Due due) {
        for (int place = 0; place < 7; place++) {
            long below = place == 0 ? 0 : 0x4141414141414141L >>> (8 - place) * BITS;
            WeldedRelays x = new WeldedRelays();
            for (int bit = (place + 1) * BITS; bit < 64; bit++) {
                due.is("gap at " + place + ", bit " + bit, x.put(below | 1L << bit), Due.BAD_VALUE);
            }
            due.is("gap at " + place + ", a good one", x.put(below | 65L << (place + 1) * BITS), Due.BAD_VALUE);
            due.is("gap at " + place + ", a good one on top", x.put(below | 65L << 56), Due.BAD_VALUE);
            due.is("no character of them", x.count(10), 0);
            due.is("without them", x.put(below), place == 0 ? Due.BAD_VALUE : place);
        }
    }

    /** "its lowest 8 bits are the last character, the next 8 bits the one before, and so on" */
    private static void theirOrder(Due due) {
        WeldedRelays x = new WeldedRelays();
        x.put('J');
        x.put('=' << 8 | '!');
        x.put('f' << 16 | '+' << 8 | 'c');
        due.is("fault()", x.fault(), Due.NONE);
        due.is("read()", x.read(), 1);
        due.is("branch(9, 0, 5)", x.branch(9, 0, 5), Due.buttons("f"));
        due.is("branch(9, 1, 4)", x.branch(9, 1, 4), Due.buttons("c"));
    }

    private static WeldedRelays roomWithPad(int length) {
        WeldedRelays x = new WeldedRelays();
        Due.put(x, "A=a+b+c;".repeat(8).substring(0, length));
        return x;
    }

    /** "TOO_MANY if the pad would be longer than 64" */
    private static void eachLengthOfThePad(Due due) {
        for (int length = 48; length <= 64; length++) {
            for (int count = 1; count <= 8; count++) {
                WeldedRelays x = roomWithPad(length);
                boolean isShort = length + count <= 64;
                long characters = Due.packed("ABCDEFGH".substring(0, count));
                String call = "put() of " + count + " behind " + length;
                due.is(call, x.put(characters), isShort ? length + count : Due.TOO_MANY);
                due.is("count(10) behind " + call, x.count(10), isShort ? length + count : length);
            }
        }
    }

    private static void badAheadOfTooMany(Due due) {
        for (int length : new int[] {63, 64}) {
            WeldedRelays x = roomWithPad(length);
            for (long bad : new long[] {0, 32, 127, 0x4120, 0x2041, 0x7F41414141414141L, 0x4100000000000041L, -1}) {
                due.is("put(" + bad + ") behind " + length, x.put(bad), Due.BAD_VALUE);
            }
            due.is("count(10)", x.count(10), length);
        }
    }

    /** "The pad is a text of at most 64 characters" */
    private static void fullPad(Due due) {
        String good = "J=!aaaaaaaa+b+c+d+e+f;I=!A;H=A;G=A;F=A;E=A;D=A;C=A;B=A;A=ABCDEFJ";
        due.is("64 characters", good.length(), 64);
        WeldedRelays x = new WeldedRelays();
        due.is("put() of all", Due.put(x, good), 64);
        due.is("fault() of 64 good ones", x.fault(), Due.NONE);
        due.is("read() of 64 good ones", x.read(), 10);
        due.is("the last character", x.branch(0, 0, 2), Due.relays("ABCDEFJ"));
        fault(due, good.substring(0, 63) + "K", 63);
        fault(due, good.substring(0, 63) + "!", 64);
        fault(due, good.substring(0, 63) + ";", 64);
        fault(due, "j" + good.substring(1), 0);
        fault(due, good.substring(0, 58) + "+a+000", 61);
    }

    /** "Empties the pad, and returns the length that it had." */
    private static void wipeEmptyAndFull(Due due) {
        WeldedRelays x = new WeldedRelays();
        due.is("wipe() of an empty pad", x.wipe(), 0);
        for (int length : new int[] {1, 63, 64}) {
            WeldedRelays y = roomWithPad(length);
            due.is("wipe() of " + length, y.wipe(), length);
            due.is("count(10)", y.count(10), 0);
            due.is("fault()", y.fault(), 0);
            due.is("wipe() again", y.wipe(), 0);
            due.is("64 fit again", Due.put(y, "A=a+b+c;".repeat(8)), 64);
            due.is("no change", y.count(11), 0);
        }
    }

    // ---- fault

    /** "if there is none and the text ends too early (also if it is empty), it is the length of the text" */
    private static void emptyText(Due due) {
        WeldedRelays x = new WeldedRelays();
        due.is("fault() of nothing", x.fault(), 0);
        due.is("read() of nothing", x.read(), Due.BAD_TEXT);
        due.is("no change", x.count(11), 0);
        WeldedRelays y = Due.room("A=a");
        due.is("fault() behind read()", y.fault(), 0);
        due.is("read() behind read()", y.read(), Due.BAD_TEXT);
        due.is("count(8)", y.count(8), 1);
    }

    private static void fault(Due due, String text, int want) {
        WeldedRelays x = new WeldedRelays();
        due.is("put() of " + text, Due.put(x, text), text.length());
        due.is("fault() of " + text, x.fault(), want);
        boolean isTaken = x.read() != Due.BAD_TEXT;
        due.is("read() of " + text, isTaken ? 1 : 0, want == Due.NONE ? 1 : 0);
    }

    private static void lettersOfRelays(Due due) {
        for (char letter = 33; letter <= 126; letter++) {
            boolean isRelay = letter >= 'A' && letter <= 'J';
            fault(due, letter + "=0", isRelay ? Due.NONE : 0);
            fault(due, "A=0;" + letter + "=0", isRelay ? Due.NONE : 4);
            if (isRelay) {
                WeldedRelays x = Due.room(letter + "=a");
                due.is("relay of " + letter, x.relay(letter - 'A', 8), 1);
                due.is("no other one of " + letter, x.count(8), 1);
            }
        }
    }

    private static void lettersOfContacts(Due due) {
        for (char letter = 33; letter <= 126; letter++) {
            boolean isRelay = letter >= 'A' && letter <= 'J';
            boolean isButton = letter >= 'a' && letter <= 'f';
            fault(due, "A=!" + letter, isRelay || isButton ? Due.NONE : 3);
            fault(due, "A=a+!" + letter, isRelay || isButton ? Due.NONE : 5);
            if (isRelay || isButton) {
                WeldedRelays x = Due.room("C=" + letter + "+!" + letter);
                int relays = isRelay ? 1 << (letter - 'A') : 0;
                int buttons = isButton ? 1 << (letter - 'a') : 0;
                due.is("front relays of " + letter, x.branch(2, 0, 2), relays);
                due.is("front buttons of " + letter, x.branch(2, 0, 4), buttons);
                due.is("front as back of " + letter, x.branch(2, 0, 3) + x.branch(2, 0, 5), 0);
                due.is("back relays of " + letter, x.branch(2, 1, 3), relays);
                due.is("back buttons of " + letter, x.branch(2, 1, 5), buttons);
                due.is("back as front of " + letter, x.branch(2, 1, 2) + x.branch(2, 1, 4), 0);
            }
        }
    }

    /** "There are at most 6 branches in a circuit", "(also .. a "+" by which there would be too many)" */
    private static void zeroToSixBranches(Due due) {
        due.is("no branch", Due.room("J=0").relay(9, 8), 0);
        String text = "J=!a";
        for (int branches = 1; branches <= 6; branches++) {
            WeldedRelays x = Due.room(text);
            due.is("relay(9, 8) of " + text, x.relay(9, 8), branches);
            due.is("the last one", x.branch(9, branches - 1, 1), 1);
            due.is("none behind it", x.branch(9, branches, 1), Due.NO_SUCH);
            fault(due, text + "+", text.length() + (branches < 6 ? 1 : 0));
            fault(due, text + "+b", branches < 6 ? Due.NONE : text.length());
            fault(due, text + "+!b", branches < 6 ? Due.NONE : text.length());
            fault(due, text + ";A=0", Due.NONE);
            text += "+!a";
        }
        fault(due, "J=0+a", 3);
        fault(due, "J=+a", 2);
        fault(due, "J=a++a", 4);
    }

    private static void branchesOfTwoCircuits(Due due) {
        fault(due, "A=a+a+a+a+a+a;A=a+a+a+a+a+a", Due.NONE);
        fault(due, "A=a+a+a+a+a+a;B=a+a+a+a+a+a", Due.NONE);
        fault(due, "A=a+a+a+a+a+a;B=a+a+a+a+a+a+a", 27);
        fault(due, "A=a+a+a;A=a+a+a;A=a+a+a", Due.NONE);
        WeldedRelays x = Due.room("A=a+a+a+a+a+a", "A=b+c");
        due.is("six from before do not count", x.relay(0, 8), 2);
        due.is("six again", Due.read(x, "A=c+c+c+c+c+f"), 1);
        due.is("the sixth", x.branch(0, 5, 4), Due.buttons("f"));
    }

    /** "8 contacts in a branch", "a branch is a row of 1 to 8 contacts", "(also a contact .. too many)" */
    private static void zeroToEightContacts(Due due) {
        fault(due, "A=", 2);
        fault(due, "A=;B=0", 2);
        fault(due, "A=a+;B=0", 4);
        String text = "A=";
        for (int contacts = 1; contacts <= 8; contacts++) {
            text += contacts % 2 == 0 ? "!b" : "b";
            WeldedRelays x = Due.room(text);
            due.is("branch(0, 0, 1) of " + text, x.branch(0, 0, 1), contacts);
            fault(due, text + "a", contacts < 8 ? Due.NONE : text.length());
            fault(due, text + "J", contacts < 8 ? Due.NONE : text.length());
            fault(due, text + "!", text.length() + (contacts < 8 ? 1 : 0));
            fault(due, text + "!a", contacts < 8 ? Due.NONE : text.length());
            fault(due, text + "+a", Due.NONE);
            fault(due, text + ";A=a", Due.NONE);
        }
    }

    private static void contactsOfTwoBranches(Due due) {
        fault(due, "A=aaaaaaaa+bbbbbbbb", Due.NONE);
        fault(due, "A=aaaaaaaa+bbbbbbbbb", 19);
        fault(due, "A=a+b+c+d+e+ffffffff", Due.NONE);
        fault(due, "A=a+b+c+d+e+fffffffff", 20);
        fault(due, "A=aaaaaaaa;A=bbbbbbbb", Due.NONE);
        fault(due, "A=aaaaaaaa;A=bbbbbbbbb", 21);
        WeldedRelays x = Due.room("A=aaaaaaaa", "A=b");
        due.is("eight from before do not count", x.branch(0, 0, 1), 1);
    }

    /** Every beginning of a text that is none itself; "it is the length of the text" */
    private static void endsTooEarly(Due due) {
        String text = "A=!aB+!C;J=0;B=f+!f!e;A=a";
        String good = "A=!a A=!aB A=!aB+!C A=!aB+!C;J=0 A=!aB+!C;J=0;B=f A=!aB+!C;J=0;B=f+!f A=!aB+!C;J=0;B=f+!f!e "
                + text;
        for (int length = 1; length <= text.length(); length++) {
            String beginning = text.substring(0, length);
            boolean isGood = (" " + good + " ").contains(" " + beginning + " ");
            fault(due, beginning, isGood ? Due.NONE : length);
        }
    }

    /** "the index of the first character that cannot stand at its place .. from left to right" */
    private static void firstOfTwoFaults(Due due) {
        fault(due, "A=a;b=0;K=0", 4);
        fault(due, "A=!!!", 3);
        fault(due, "A=aaaaaaaaa+", 10);
        fault(due, "A=a+a+a+a+a+a+aaaaaaaaa", 13);
        fault(due, "A=aaaaaaaaa+a+a+a+a+a+a", 10);
        fault(due, "0", 0);
        fault(due, "A=a,", 3);
        fault(due, "A0", 1);
        fault(due, "AA=0", 1);
        fault(due, "A!=0", 1);
        fault(due, "A;B=0", 1);
        fault(due, "A==0", 2);
    }

    private static void faultChangesNothing(Due due) {
        String[] texts = {"B=b+!A", "A=b;B", "A=a;C=x", "A=0;B=0"};
        for (String text : texts) {
            Twins.Maker maker = () -> {
                WeldedRelays x = Due.room("A=a+c;C=!A");
                x.pass(3);
                x.save(0);
                Due.put(x, text);
                return x;
            };
            Twins twins = new Twins(due, "pad " + text, maker, text.equals("A=b;B") ? "=0" : "");
            twins.keeps("fault()", x -> x.fault());
            twins.keeps("fault() twice", x -> x.fault() + x.fault());
        }
    }

    // ---- read

    /** "BAD_TEXT if the pad has a fault": no circuit ahead of the fault is taken. */
    private static void readTakesAllOrNothing(Due due) {
        for (String text : new String[] {"A=c;", "A=0;B=d;C=", "B=b;A=ccccccccc", "A=c;A=c+c+c+c+c+c+c", "A=cx"}) {
            WeldedRelays x = Due.room("A=a;B=a+b");
            String before = Look.state(x);
            due.is("read() of " + text, Due.read(x, text), Due.BAD_TEXT);
            due.is("the state behind " + text, Look.state(x).equals(before) ? 1 : 0, 1);
            due.is("the pad behind " + text, x.count(10), text.length());
            due.is("the history behind " + text, x.count(11), 1);
        }
    }

    /** "each in place of the one of its relay (of several of one relay the last one)" */
    private static void readOfSeveral(Due due) {
        WeldedRelays x = new WeldedRelays();
        due.is("three of A", Due.read(x, "A=a+b+c;B=b;A=0;A=!d!J"), 2);
        due.is("relay(0, 8)", x.relay(0, 8), 1);
        due.is("branch(0, 0, 1)", x.branch(0, 0, 1), 2);
        due.is("branch(0, 0, 3)", x.branch(0, 0, 3), Due.relays("J"));
        due.is("branch(0, 0, 4)", x.branch(0, 0, 4), 0);
        due.is("branch(0, 0, 5)", x.branch(0, 0, 5), Due.buttons("d"));
        due.is("relay(1, 8)", x.relay(1, 8), 1);
        due.is("the last one has none", Due.read(x, "A=a;B=a;A=0"), 1);
        due.is("relay(0, 8)", x.relay(0, 8), 0);
        due.is("branch(1, 0, 4)", x.branch(1, 0, 4), Due.buttons("a"));
    }

    /** "Returns how many relays have branches then": 0 to 10 */
    private static void readCounts(Due due) {
        WeldedRelays x = new WeldedRelays();
        due.is("none", Due.read(x, "A=0;J=0"), 0);
        for (int relay = 0; relay < 10; relay++) {
            due.is("read() of one more", Due.read(x, (char) ('A' + relay) + "=a"), relay + 1);
            due.is("count(8)", x.count(8), relay + 1);
        }
        for (int relay = 0; relay < 10; relay++) {
            due.is("read() of one less", Due.read(x, (char) ('A' + relay) + "=0"), 9 - relay);
        }
    }

    private static void readEmptiesThePad(Due due) {
        WeldedRelays x = Due.room("A=a");
        due.is("count(10)", x.count(10), 0);
        due.is("wipe()", x.wipe(), 0);
        due.is("the next one begins anew", Due.read(x, "B=b"), 2);
        due.is("64 fit", Due.put(x, "A=a+b+c;".repeat(8)), 64);
    }

    /** "All else stays." */
    private static void readLeavesTheRest(Due due) {
        WeldedRelays x = Due.room("A=a;B=!a;C=c");
        x.time(0, true, 9);
        x.time(2, false, 8);
        x.life(7);
        x.press(0, true);
        x.settle();
        x.weld(0, true);
        x.press(0, false);
        x.press(2, true);
        x.pass(4);
        x.save(1);
        int[][] counts = {{0, Due.relays("AB")}, {2, Due.relays("A")}, {4, Due.buttons("c")}, {5, 6}, {6, 2}, {7, 7}};
        String before = Look.state(x);
        due.is("read() of the same", Due.read(x, "A=a;B=!a;C=c"), 3);
        due.is("the same state", Look.state(x).equals(before) ? 1 : 0, 1);
        due.is("read() of others", Due.read(x, "A=0;C=0"), 1);
        for (int[] count : counts) {
            due.is("count(" + count[0] + ") stays", x.count(count[0]), count[1]);
        }
        due.is("the wait of C", x.relay(2, 4), 4);
        due.is("the operations of A", x.relay(0, 5), 1);
        due.is("the time of A", x.relay(0, 7), 9);
        due.is("the time of C", x.relay(2, 6), 8);
        due.is("restore(1)", x.restore(1), Due.relays("AB"));
        due.is("the slot stays", Look.state(x).equals(before) ? 1 : 0, 1);
    }
}
