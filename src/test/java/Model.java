import java.util.ArrayDeque;
import java.util.ArrayList;
import java.util.Arrays;
import java.util.Deque;
import java.util.List;
import java.util.regex.Pattern;
import java.util.stream.Collectors;

/** The document said once more, by texts and copies instead of bits and rows, to compare with. */
final class Model {
    private static final String CONTACT = "!?[A-Ja-f]";
    private static final String BRANCH = "(" + CONTACT + "){1,8}";
    private static final String CIRCUIT = "[A-J]=(0|" + BRANCH + "(\\+" + BRANCH + "){0,5})";
    private static final Pattern TEXT = Pattern.compile(CIRCUIT + "(;" + CIRCUIT + ")*");
    private static final String[] ENDINGS = {"", "A=0", "=0", "0", "a"};

    private static final class State {
        final boolean[] up = new boolean[10];
        final boolean[] welded = new boolean[10];
        final boolean[] on = new boolean[6];
        final int[] pick = new int[10];
        final int[] drop = new int[10];
        final int[] wait = new int[10];
        final int[] operations = new int[10];
        final String[] circuits = new String[10];
        int life;
        int ticks;
        int moves;

        State() {
            Arrays.fill(pick, 2);
            Arrays.fill(drop, 1);
            Arrays.fill(circuits, "0");
        }

        State copy() {
            State s = new State();
            System.arraycopy(up, 0, s.up, 0, 10);
            System.arraycopy(welded, 0, s.welded, 0, 10);
            System.arraycopy(on, 0, s.on, 0, 6);
            System.arraycopy(pick, 0, s.pick, 0, 10);
            System.arraycopy(drop, 0, s.drop, 0, 10);
            System.arraycopy(wait, 0, s.wait, 0, 10);
            System.arraycopy(operations, 0, s.operations, 0, 10);
            System.arraycopy(circuits, 0, s.circuits, 0, 10);
            s.life = life;
            s.ticks = ticks;
            s.moves = moves;
            return s;
        }

        List<String> branches(int relay) {
            return circuits[relay].equals("0") ? List.of() : List.of(circuits[relay].split("\\+"));
        }

        boolean isClosed(String branch) {
            for (String contact : contacts(branch)) {
                char name = contact.charAt(contact.length() - 1);
                boolean isActive = name >= 'a' ? on[name - 'a'] : up[name - 'A'];
                if (isActive == contact.startsWith("!")) {
                    return false;
                }
            }
            return true;
        }

        boolean isFed(int relay) {
            return branches(relay).stream().anyMatch(this::isClosed);
        }

        boolean wants(int relay) {
            return up[relay] ? !isFed(relay) && !welded[relay] : isFed(relay);
        }

        boolean isAtRest() {
            for (int relay = 0; relay < 10; relay++) {
                if (wants(relay)) {
                    return false;
                }
            }
            return true;
        }

        void tick() {
            State old = copy();
            ticks++;
            for (int relay = 0; relay < 10; relay++) {
                wait[relay] = old.wants(relay) ? old.wait[relay] + 1 : 0;
                if (old.wants(relay) && wait[relay] >= (old.up[relay] ? drop[relay] : pick[relay])) {
                    up[relay] = !old.up[relay];
                    wait[relay] = 0;
                    moves++;
                    if (up[relay]) {
                        operations[relay]++;
                        if (life > 0 && operations[relay] >= life) {
                            welded[relay] = true;
                        }
                    }
                }
            }
        }

        /** Returns whether it came to rest. */
        boolean rests() {
            for (int tick = 0; tick < 200 && !isAtRest(); tick++) {
                tick();
            }
            return isAtRest();
        }

        State with(int buttons) {
            State s = copy();
            for (int button = 0; button < 6; button++) {
                s.on[button] = (buttons >> button) % 2 == 1;
            }
            return s;
        }
    }

    private static List<String> contacts(String branch) {
        List<String> contacts = new ArrayList<>();
        for (int i = 0; i < branch.length(); i++) {
            String negation = branch.charAt(i) == '!' ? "!" : "";
            i += negation.length();
            contacts.add(negation + branch.charAt(i));
        }
        return contacts;
    }

    private static int set(boolean[] members) {
        int set = 0;
        for (int i = 0; i < members.length; i++) {
            set += members[i] ? 1 << i : 0;
        }
        return set;
    }

    private interface OfRelay {
        boolean holds(int relay);
    }

    private static int relays(OfRelay condition) {
        boolean[] members = new boolean[10];
        for (int relay = 0; relay < 10; relay++) {
            members[relay] = condition.holds(relay);
        }
        return set(members);
    }

    private State now = new State();
    private String pad = "";
    private final Deque<State> history = new ArrayDeque<>();
    private final State[] slots = new State[2];

    private void change() {
        history.addLast(now.copy());
        if (history.size() > 6) {
            history.removeFirst();
        }
    }

    private static boolean no(int value, int least, int most) {
        return value < least || value > most;
    }

    int time(int relay, boolean isDrop, int ticks) {
        if (no(relay, 0, 9)) return -1;
        if (no(ticks, 1, 9)) return -2;
        change();
        int[] row = isDrop ? now.drop : now.pick;
        int previous = row[relay];
        row[relay] = ticks;
        return previous;
    }

    int life(int operations) {
        if (no(operations, 0, 99)) return -2;
        change();
        int previous = now.life;
        now.life = operations;
        return previous;
    }

    int read() {
        if (fault() != -6) return -3;
        change();
        for (String circuit : pad.split(";")) {
            now.circuits[circuit.charAt(0) - 'A'] = circuit.substring(2);
        }
        pad = "";
        return count(8);
    }

    int press(int button, boolean isOn) {
        if (no(button, 0, 5)) return -1;
        if (now.on[button] == isOn) return -5;
        change();
        now.on[button] = isOn;
        return count(3);
    }

    int weld(int relay, boolean isWelded) {
        if (no(relay, 0, 9)) return -1;
        if (now.welded[relay] == isWelded) return -5;
        if (isWelded && !now.up[relay]) return -5;
        change();
        int operations = now.operations[relay];
        now.welded[relay] = isWelded;
        now.operations[relay] = isWelded ? operations : 0;
        return operations;
    }

    int pass(int ticks) {
        if (no(ticks, 1, 200)) return -2;
        change();
        int before = now.moves;
        for (int i = 0; i < ticks; i++) {
            now.tick();
        }
        return now.moves - before;
    }

    int settle() {
        change();
        int before = now.ticks;
        boolean rests = now.rests();
        return now.ticks - before + (rests ? 0 : 1000);
    }

    int relay(int relay, int what) {
        if (no(relay, 0, 9)) return -1;
        char name = (char) ('A' + relay);
        return switch (what) {
            case 0 -> now.up[relay] ? 1 : 0;
            case 1 -> now.isFed(relay) ? 1 : 0;
            case 2 -> now.welded[relay] ? 1 : 0;
            case 3 -> now.wants(relay) ? 1 : 0;
            case 4 -> now.wait[relay];
            case 5 -> now.operations[relay];
            case 6 -> now.pick[relay];
            case 7 -> now.drop[relay];
            case 8 -> now.branches(relay).size();
            case 9 -> now.branches(relay).stream().anyMatch(b -> contacts(b).contains("" + name)) ? 1 : 0;
            case 10 -> relays(r -> now.circuits[r].indexOf(name) >= 0);
            default -> -2;
        };
    }

    int branch(int relay, int branch, int what) {
        if (no(relay, 0, 9) || no(branch, 0, now.branches(relay).size() - 1)) return -1;
        String text = now.branches(relay).get(branch);
        List<String> contacts = contacts(text);
        List<String> fronts = contacts.stream().filter(c -> c.length() == 1).collect(Collectors.toList());
        List<String> backs = contacts.stream().filter(c -> c.length() == 2).collect(Collectors.toList());
        return switch (what) {
            case 0 -> now.isClosed(text) ? 1 : 0;
            case 1 -> text.replace("!", "").length();
            case 2 -> relays(r -> fronts.contains("" + (char) ('A' + r)));
            case 3 -> relays(r -> backs.contains("!" + (char) ('A' + r)));
            case 4 -> relays(r -> r < 6 && fronts.contains("" + (char) ('a' + r)));
            case 5 -> relays(r -> r < 6 && backs.contains("!" + (char) ('a' + r)));
            default -> -2;
        };
    }

    int count(int what) {
        return switch (what) {
            case 0 -> set(now.up);
            case 1 -> relays(now::isFed);
            case 2 -> set(now.welded);
            case 3 -> relays(now::wants);
            case 4 -> set(now.on);
            case 5 -> now.ticks;
            case 6 -> now.moves;
            case 7 -> now.life;
            case 8 -> (int) Arrays.stream(now.circuits).filter(c -> !c.equals("0")).count();
            case 9 -> neverClosed();
            case 10 -> pad.length();
            case 11 -> history.size();
            default -> -2;
        };
    }

    private int neverClosed() {
        int found = 0;
        for (int relay = 0; relay < 10; relay++) {
            for (String branch : now.branches(relay)) {
                List<String> contacts = contacts(branch);
                found += contacts.stream().anyMatch(c -> contacts.contains("!" + c)) ? 1 : 0;
            }
        }
        return found;
    }

    int ifPressed(int buttons, int ticks) {
        if (no(buttons, 0, 63) || no(ticks, 0, 200)) return -2;
        State s = now.with(buttons);
        for (int i = 0; i < ticks; i++) {
            s.tick();
        }
        return set(s.up);
    }

    int rest(int buttons, int what) {
        if (no(buttons, 0, 63) || no(what, 0, 2)) return -2;
        State s = now.with(buttons);
        if (!s.rests()) return -6;
        return new int[] {set(s.up), s.ticks - now.ticks, s.moves - now.moves}[what];
    }

    int race(int buttons) {
        if (no(buttons, 0, 63)) return -2;
        State real = now.with(buttons);
        State quick = now.with(buttons);
        Arrays.fill(quick.pick, 1);
        Arrays.fill(quick.drop, 1);
        boolean rests = real.rests();
        if (quick.rests() != rests) return 1;
        return rests && set(real.up) != set(quick.up) ? 1 : 0;
    }

    int ifWelded(int relay, int welded) {
        if (no(relay, 0, 9) || no(welded, 0, 9)) return -1;
        if (relay == welded) return -2;
        State s = now.with(0);
        s.up[welded] = true;
        s.welded[welded] = true;
        if (!s.rests()) return -6;
        return s.up[relay] ? 1 : 0;
    }

    int unsafe(int relay) {
        if (no(relay, 0, 9)) return -1;
        return relays(other -> ifWelded(relay, other) == 1);
    }

    int reach(int relay) {
        if (no(relay, 0, 9)) return -1;
        int best = -6;
        for (int buttons = 63; buttons >= 0; buttons--) {
            boolean isFewer = best == -6 || Integer.bitCount(buttons) <= Integer.bitCount(best);
            State s = now.with(buttons);
            if (isFewer && s.rests() && s.up[relay]) {
                best = buttons;
            }
        }
        return best;
    }

    int put(long characters) {
        String text = "";
        boolean isEnded = false;
        for (int i = 0; i < 8; i++) {
            int code = (int) (characters >>> 8 * i & 0xFF);
            isEnded |= code == 0;
            if (isEnded ? code != 0 : no(code, 33, 126)) return -2;
            text = isEnded ? text : (char) code + text;
        }
        if (text.isEmpty()) return -2;
        if (pad.length() + text.length() > 64) return -4;
        pad += text;
        return pad.length();
    }

    int wipe() {
        int length = pad.length();
        pad = "";
        return length;
    }

    /** A beginning can stand if one of the shortest endings makes a text of it. */
    int fault() {
        for (int length = 1; length <= pad.length(); length++) {
            String beginning = pad.substring(0, length);
            if (Arrays.stream(ENDINGS).noneMatch(e -> TEXT.matcher(beginning + e).matches())) {
                return length - 1;
            }
        }
        return TEXT.matcher(pad).matches() ? -6 : pad.length();
    }

    int undo() {
        if (history.isEmpty()) return -5;
        now = history.removeLast();
        return history.size();
    }

    int save(int slot) {
        if (no(slot, 0, 1)) return -2;
        slots[slot] = now.copy();
        return set(now.up);
    }

    int restore(int slot) {
        if (no(slot, 0, 1)) return -2;
        if (slots[slot] == null) return -5;
        change();
        now = slots[slot].copy();
        return set(now.up);
    }
}
