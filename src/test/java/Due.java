/** Counts the answers that are not the ones that are due, and makes rooms from texts. */
final class Due {
    static final int NO_SUCH = -1, BAD_VALUE = -2, BAD_TEXT = -3, TOO_MANY = -4, NOT_POSSIBLE = -5, NONE = -6;

    private final String name;
    private int asked;
    private int wrong;

    Due(String name) {
        this.name = name;
    }

    void is(String call, long got, long want) {
        asked++;
        if (got != want) {
            wrong++;
            System.out.println(name + ": " + call + " answered " + got + ", due is " + want);
        }
    }

    void end() {
        System.out.println(name + ": " + asked + " answers looked at, " + wrong + " wrong");
        if (wrong != 0 || asked == 0) {
            System.exit(1);
        }
    }

    static long packed(String text) {
        long packed = 0;
        for (char sign : text.toCharArray()) {
            packed = packed << 8 | sign;
        }
        return packed;
    }

    /** Returns what the last put() answers. */
    static int put(WeldedRelays x, String text) {
        int answer = 0;
        for (int from = 0; from < text.length(); from += 8) {
            answer = x.put(packed(text.substring(from, Math.min(text.length(), from + 8))));
        }
        return answer;
    }

    static int read(WeldedRelays x, String text) {
        put(x, text);
        return x.read();
    }

    static WeldedRelays room(String... texts) {
        WeldedRelays x = new WeldedRelays();
        for (String text : texts) {
            if (read(x, text) < 0) {
                throw new IllegalArgumentException(text);
            }
        }
        return x;
    }

    /** A relay that comes to rest behind life * pick + (life - 1) * drop ticks, by its welding. */
    static WeldedRelays wearsOut(int pick, int drop, int life) {
        WeldedRelays x = room("A=!A");
        x.time(0, false, pick);
        x.time(0, true, drop);
        x.life(life);
        return x;
    }

    /** A set of relays by their letters, "" for none. */
    static int relays(String letters) {
        int set = 0;
        for (char letter : letters.toCharArray()) {
            set |= 1 << (letter - 'A');
        }
        return set;
    }

    /** A set of buttons by their letters, "" for none. */
    static int buttons(String letters) {
        int set = 0;
        for (char letter : letters.toCharArray()) {
            set |= 1 << (letter - 'a');
        }
        return set;
    }
}
