/** Promises 18 to 20. */
public final class TextsTest {
    public static void main(String[] args) {
        Due due = new Due("TextsTest");
        put(due);
        putLimit(due);
        wipe(due);
        faults(due);
        tooManyContacts(due);
        tooManyBranches(due);
        everySign(due);
        due.end();
    }

    private static void put(Due due) {
        WeldedRelays x = new WeldedRelays();
        due.is("put(0)", x.put(0), Due.BAD_VALUE);
        due.is("code 32", x.put(32), Due.BAD_VALUE);
        due.is("code 127", x.put(127), Due.BAD_VALUE);
        due.is("code 1", x.put(1), Due.BAD_VALUE);
        due.is("code 255", x.put(255), Due.BAD_VALUE);
        due.is("put(-1)", x.put(-1), Due.BAD_VALUE);
        due.is("put(min)", x.put(Long.MIN_VALUE), Due.BAD_VALUE);
        due.is("no last character", x.put(0x4100), Due.BAD_VALUE);
        due.is("a gap", x.put(0x410042), Due.BAD_VALUE);
        due.is("a gap far up", x.put(0x4100000000000042L), Due.BAD_VALUE);
        due.is("one bit above the gap", x.put(0x0100000000000042L), Due.BAD_VALUE);
        due.is("the first one is bad", x.put(0x2041), Due.BAD_VALUE);
        due.is("the first of eight is bad", x.put(0x7F41414141414141L), Due.BAD_VALUE);
        due.is("the first of eight is negative", x.put(0xC141414141414141L), Due.BAD_VALUE);
        due.is("count(10) behind errors", x.count(10), 0);
        due.is("code 33", x.put(33), 1);
        due.is("code 126", x.put(126), 2);
        due.is("seven", x.put(Due.packed("abcdefg")), 9);
        due.is("eight", x.put(Due.packed("~~~~~~~~")), 17);
        due.is("count(10)", x.count(10), 17);
        due.is("no change", x.count(11), 0);
        WeldedRelays y = new WeldedRelays();
        Due.put(y, "A=abc!d+!eF");
        due.is("in their order", y.fault(), Due.NONE);
        y.read();
        due.is("in their order", y.branch(0, 1, 5), Due.buttons("e"));
    }

    private static void putLimit(Due due) {
        WeldedRelays x = new WeldedRelays();
        for (int length = 8; length <= 56; length += 8) {
            due.is("put() of eight", x.put(Due.packed("A=a;A=a;")), length);
        }
        due.is("put() of seven", x.put(Due.packed("A=a;A=a")), 63);
        due.is("two too many", x.put(Due.packed("ab")), Due.TOO_MANY);
        due.is("a bad one too many", x.put(Due.packed("a b")), Due.BAD_VALUE);
        due.is("count(10)", x.count(10), 63);
        due.is("put() of the last one", x.put('a'), 64);
        due.is("one too many", x.put('a'), Due.TOO_MANY);
        due.is("fault() of 64", x.fault(), Due.NONE);
        due.is("read() of 64", x.read(), 1);
        due.is("branch(0, 0, 1)", x.branch(0, 0, 1), 2);
        due.is("put() behind read()", x.put('a'), 1);
    }

    private static void wipe(Due due) {
        WeldedRelays x = new WeldedRelays();
        due.is("wipe() of nothing", x.wipe(), 0);
        Due.put(x, "A=abcdefghij");
        due.is("wipe()", x.wipe(), 12);
        due.is("wipe() again", x.wipe(), 0);
        due.is("count(10)", x.count(10), 0);
        due.is("no change", x.count(11), 0);
        due.is("fault()", x.fault(), 0);
        due.is("put() behind wipe()", Due.put(x, "B=b"), 3);
        due.is("read()", x.read(), 1);
        due.is("relay(1, 8)", x.relay(1, 8), 1);
    }

    private static void faults(Due due) {
        String[] good = {"A=0", "J=J", "A=!a", "A=f+!J", "A=0;A=0", "A=aA!b!B;B=0;C=a+b"};
        for (String text : good) {
            fault(due, text, Due.NONE);
        }
        String[] early = {"A", "A=", "A=!", "A=a+", "A=a;", "A=0;", "A=a!", "A=a+!", "A=a;B", "A=a;B="};
        for (String text : early) {
            fault(due, text, text.length());
        }
        fault(due, "a=0", 0);
        fault(due, "K=0", 0);
        fault(due, "@=0", 0);
        fault(due, ";A=0", 0);
        fault(due, "AB=0", 1);
        fault(due, "A0", 1);
        fault(due, "A==0", 2);
        fault(due, "A=1", 2);
        fault(due, "A=+a", 2);
        fault(due, "A=;", 2);
        fault(due, "A=g", 2);
        fault(due, "A=K", 2);
        fault(due, "A=`", 2);
        fault(due, "A=00", 3);
        fault(due, "A=0a", 3);
        fault(due, "A=0+a", 3);
        fault(due, "A=0!a", 3);
        fault(due, "A=!!a", 3);
        fault(due, "A=!0", 3);
        fault(due, "A=!+", 3);
        fault(due, "A=!;", 3);
        fault(due, "A=a0", 3);
        fault(due, "A=a=", 3);
        fault(due, "A=aB=0", 4);
        fault(due, "A=a++a", 4);
        fault(due, "A=a+0", 4);
        fault(due, "A=a+;", 4);
        fault(due, "A=a;;", 4);
        fault(due, "A=a;b=0", 4);
        fault(due, "A=a;B=x!", 6);
    }

    private static void fault(Due due, String text, int want) {
        WeldedRelays x = new WeldedRelays();
        Due.put(x, text);
        due.is("fault() of " + text, x.fault(), want);
        due.is("read() of " + text, x.read() == Due.BAD_TEXT ? 1 : 0, want == Due.NONE ? 0 : 1);
        due.is("count(10) behind " + text, x.count(10), want == Due.NONE ? 0 : text.length());
    }

    private static void tooManyContacts(Due due) {
        fault(due, "A=aaaaaaaa", Due.NONE);
        fault(due, "A=aaaaaaaaa", 10);
        fault(due, "A=aaaaaaaa!a", 10);
        fault(due, "A=aaaaaaa!a", Due.NONE);
        fault(due, "A=aaaaaaa!aa", 11);
        fault(due, "A=!a!a!a!a!a!a!a!a", Due.NONE);
        fault(due, "A=!a!a!a!a!a!a!a!a!a", 18);
        fault(due, "A=aaaaaaaa+aaaaaaaa;B=aaaaaaaa", Due.NONE);
        fault(due, "A=aaaaaaaa+aaaaaaaaa", 19);
    }

    private static void tooManyBranches(Due due) {
        fault(due, "A=a+a+a+a+a+a", Due.NONE);
        fault(due, "A=a+a+a+a+a+a+", 13);
        fault(due, "A=a+a+a+a+a+a+a", 13);
        fault(due, "A=a+a+a+a+a+a;A=a+a+a+a+a+a", Due.NONE);
        fault(due, "A=a+a+a+a+a+a;A=a+a+a+a+a+a+a", 27);
        WeldedRelays x = Due.room("A=a+a+a+a+a+a");
        Due.put(x, "A=a+b");
        due.is("six from before do not count", x.fault(), Due.NONE);
    }

    /** Behind each place every sign that can be put, by the rule written out. */
    private static void everySign(Due due) {
        String relays = "ABCDEFGHIJ";
        String contacts = relays + "abcdef";
        String[][] places = {
            {"", relays}, {"A", "="}, {"A=", contacts + "!0"}, {"A=0", ";"}, {"A=!", contacts},
            {"A=a", contacts + "!+;"}, {"A=a+", contacts + "!"}, {"A=a;", relays},
            {"A=a+a+a+a+a+a", contacts + "!;"}, {"A=aaaaaaaa", "+;"},
        };
        for (String[] place : places) {
            for (char sign = 33; sign <= 126; sign++) {
                WeldedRelays x = new WeldedRelays();
                Due.put(x, place[0] + sign);
                boolean isFault = x.fault() == place[0].length();
                boolean isDue = place[1].indexOf(sign) < 0;
                due.is(place[0] + " and " + sign, isFault ? 1 : 0, isDue ? 1 : 0);
            }
        }
    }
}
