import java.util.Random;

/** Promises 1 to 23 by long runs of calls, each compared with the model. */
public final class ModelTest {
    private static final int RUNS = 500;
    private static final int CALLS = 512;

    private final Due due;
    private final Random random;
    private final int run;
    private final WeldedRelays x = new WeldedRelays();
    private final Model y = new Model();
    // The document promises nothing of an object behind its 512th call.
    private int calls;

    private ModelTest(Due due, int run) {
        this.due = due;
        this.run = run;
        this.random = new Random(run);
    }

    public static void main(String[] args) {
        Due due = new Due("ModelTest");
        for (int run = 0; run < RUNS; run++) {
            ModelTest test = new ModelTest(due, run);
            for (int number = 0; test.calls < CALLS; number++) {
                test.call(number);
            }
        }
        due.end();
    }

    private void same(String call, int got, int want) {
        calls++;
        due.is("run " + run + ", " + call, got, want);
    }

    private void call(int number) {
        int dearCalls = number % 16 == 0 ? 25 : 20;
        switch (random.nextInt(dearCalls)) {
            case 0, 1 -> put();
            case 2 -> same("fault", x.fault(), y.fault());
            case 3, 4 -> same("read", x.read(), y.read());
            case 5, 6, 7 -> press();
            case 8 -> time();
            case 9 -> weld();
            case 10 -> pass();
            case 11 -> settleOrLife();
            case 12, 13 -> relay();
            case 14, 15 -> branch();
            case 16, 17 -> count();
            case 18 -> undoOrWipe();
            case 19 -> slot();
            case 20 -> ifPressed();
            case 21 -> rest();
            case 22 -> race();
            case 23 -> ifWelded();
            default -> ofRelay();
        }
    }

    /** One in twenty numbers is out of the range, by a little or by far. */
    private int number(int least, int most) {
        return switch (random.nextInt(80)) {
            case 0 -> least - 1;
            case 1 -> most + 1;
            case 2 -> random.nextInt();
            case 3 -> random.nextBoolean() ? Integer.MIN_VALUE : Integer.MAX_VALUE;
            default -> least + random.nextInt(most - least + 1);
        };
    }

    private void put() {
        if (random.nextInt(20) == 0) {
            long packed = random.nextLong() >>> random.nextInt(64);
            same("put " + packed, x.put(packed), y.put(packed));
            return;
        }
        if (random.nextInt(2) == 0) {
            same("wipe", x.wipe(), y.wipe());
        }
        StringBuilder text = new StringBuilder();
        int circuits = 1 + random.nextInt(6);
        for (int i = 0; i < circuits; i++) {
            text.append(i == 0 ? "" : ";");
            appendCircuit(text);
        }
        spoil(text);
        for (int from = 0; from < text.length() && calls < CALLS; from += 8) {
            long packed = Due.packed(text.substring(from, Math.min(text.length(), from + 8)));
            same("put " + packed, x.put(packed), y.put(packed));
        }
    }

    private void appendCircuit(StringBuilder text) {
        text.append((char) ('A' + random.nextInt(10))).append('=');
        if (random.nextInt(12) == 0) {
            text.append('0');
            return;
        }
        int branches = random.nextInt(10) == 0 ? 1 + random.nextInt(7) : 1 + random.nextInt(3);
        for (int i = 0; i < branches; i++) {
            text.append(i == 0 ? "" : "+");
            int contacts = random.nextInt(12) == 0 ? 1 + random.nextInt(9) : 1 + random.nextInt(2);
            for (int j = 0; j < contacts; j++) {
                text.append(random.nextInt(3) == 0 ? "!" : "");
                text.append("ABCDEFGHIJabcdefabcdef".charAt(random.nextInt(22)));
            }
        }
    }

    private void spoil(StringBuilder text) {
        if (random.nextInt(5) == 0) {
            int at = random.nextInt(text.length());
            text.setCharAt(at, random.nextBoolean() ? "AJKafg=+!;0".charAt(random.nextInt(11))
                    : (char) (33 + random.nextInt(94)));
        }
    }

    private void press() {
        int button = number(0, 5);
        boolean isOn = random.nextBoolean();
        same("press " + button, x.press(button, isOn), y.press(button, isOn));
    }

    private void time() {
        int relay = number(0, 9);
        boolean isDrop = random.nextBoolean();
        int ticks = number(1, 9);
        same("time " + relay, x.time(relay, isDrop, ticks), y.time(relay, isDrop, ticks));
    }

    private void weld() {
        int relay = number(0, 9);
        boolean isWelded = random.nextInt(3) == 0;
        same("weld " + relay, x.weld(relay, isWelded), y.weld(relay, isWelded));
    }

    private void pass() {
        int ticks = random.nextInt(8) == 0 ? number(1, 200) : number(1, 4);
        same("pass " + ticks, x.pass(ticks), y.pass(ticks));
    }

    private void settleOrLife() {
        if (random.nextBoolean()) {
            same("settle", x.settle(), y.settle());
        } else {
            int operations = random.nextBoolean() ? 0 : number(0, random.nextBoolean() ? 5 : 99);
            same("life " + operations, x.life(operations), y.life(operations));
        }
    }

    private void relay() {
        int relay = number(0, 9);
        int what = number(0, 10);
        same("relay " + relay + ", " + what, x.relay(relay, what), y.relay(relay, what));
    }

    private void branch() {
        int relay = number(0, 9);
        int branch = random.nextInt(4) == 0 ? number(0, 5) : 0;
        int what = number(0, 5);
        same("branch " + relay + ", " + branch + ", " + what,
                x.branch(relay, branch, what), y.branch(relay, branch, what));
    }

    private void count() {
        int what = number(0, 11);
        same("count " + what, x.count(what), y.count(what));
    }

    private void undoOrWipe() {
        if (random.nextInt(6) == 0) {
            same("wipe", x.wipe(), y.wipe());
        } else {
            same("undo", x.undo(), y.undo());
        }
    }

    private void slot() {
        int slot = number(0, 1);
        if (random.nextBoolean()) {
            same("save " + slot, x.save(slot), y.save(slot));
        } else {
            same("restore " + slot, x.restore(slot), y.restore(slot));
        }
    }

    private void ifPressed() {
        int buttons = number(0, 63);
        int ticks = random.nextBoolean() ? number(0, 6) : number(0, 200);
        same("ifPressed " + buttons + ", " + ticks, x.ifPressed(buttons, ticks), y.ifPressed(buttons, ticks));
    }

    private void rest() {
        int buttons = number(0, 63);
        int what = number(0, 2);
        same("rest " + buttons + ", " + what, x.rest(buttons, what), y.rest(buttons, what));
    }

    private void race() {
        int buttons = number(0, 63);
        same("race " + buttons, x.race(buttons), y.race(buttons));
    }

    private void ifWelded() {
        int relay = number(0, 9);
        int welded = number(0, 9);
        same("ifWelded " + relay + ", " + welded, x.ifWelded(relay, welded), y.ifWelded(relay, welded));
    }

    private void ofRelay() {
        int relay = number(0, 9);
        if (random.nextInt(3) == 0) {
            same("unsafe " + relay, x.unsafe(relay), y.unsafe(relay));
        } else if (random.nextInt(4) == 0) {
            same("reach " + relay, x.reach(relay), y.reach(relay));
        }
    }
}
