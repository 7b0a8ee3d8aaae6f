/**
 * A relay room: circuits feed relays, relays move in ticks, wear out and weld.
 * README.md tells how to use it; what each call does is promised in the document.
 */
public final class WeldedRelays {
    public static final int NO_SUCH = -1, BAD_VALUE = -2, BAD_TEXT = -3, TOO_MANY = -4, NOT_POSSIBLE = -5, NONE = -6;

    private static final int RELAYS = 10;
    private static final int BUTTONS = 6;
    private static final int RELAY_SET = (1 << RELAYS) - 1;
    private static final int BUTTON_SET = (1 << BUTTONS) - 1;
    private static final int MOST_BRANCHES = 6;
    private static final int MOST_CONTACTS = 8;
    private static final int MOST_TIME = 9;
    private static final int MOST_LIFE = 99;
    private static final int MOST_TICKS = 200;
    private static final int NOT_AT_REST = 1000;
    private static final int MOST_CHARACTERS = 64;
    private static final int MOST_STATES = 6;
    private static final int SLOTS = 2;

    private final Room room;
    // The what-if calls and the reader work on this copy, so that no call makes objects.
    private final Room trial;
    private final Pad pad;
    private final Reader reader;
    private final History history;
    private final Room[] slots;
    private final boolean[] isSaved;

    public WeldedRelays() {
        room = new Room();
        trial = new Room();
        pad = new Pad();
        reader = new Reader();
        history = new History();
        slots = new Room[SLOTS];
        isSaved = new boolean[SLOTS];
        for (int slot = 0; slot < SLOTS; slot++) {
            slots[slot] = new Room();
        }
    }

    // ---- changes

    public int time(int relay, boolean isDrop, int ticks) {
        if (!isRelay(relay)) {
            return NO_SUCH;
        }
        if (!isWithin(ticks, 1, MOST_TIME)) {
            return BAD_VALUE;
        }
        history.record(room);
        int[] times = isDrop ? room.dropTimes : room.pickTimes;
        int previous = times[relay];
        times[relay] = ticks;
        return previous;
    }

    public int life(int operations) {
        if (!isWithin(operations, 0, MOST_LIFE)) {
            return BAD_VALUE;
        }
        history.record(room);
        int previous = room.life;
        room.life = operations;
        return previous;
    }

    public int read() {
        trial.copyFrom(room);
        if (reader.readInto(trial, pad) != NONE) {
            return BAD_TEXT;
        }
        history.record(room);
        room.copyFrom(trial);
        pad.clear();
        return room.relaysWithBranches();
    }

    public int press(int button, boolean isOn) {
        if (!isWithin(button, 0, BUTTONS - 1)) {
            return NO_SUCH;
        }
        if (isIn(room.buttons, button) == isOn) {
            return NOT_POSSIBLE;
        }
        history.record(room);
        room.buttons ^= 1 << button;
        return room.wantingRelays();
    }

    public int weld(int relay, boolean isWelded) {
        if (!isRelay(relay)) {
            return NO_SUCH;
        }
        boolean isDown = !isIn(room.up, relay);
        if (isIn(room.welded, relay) == isWelded || (isWelded && isDown)) {
            return NOT_POSSIBLE;
        }
        history.record(room);
        int operations = room.operations[relay];
        room.welded ^= 1 << relay;
        if (!isWelded) {
            room.operations[relay] = 0;
        }
        return operations;
    }

    public int pass(int ticks) {
        if (!isWithin(ticks, 1, MOST_TICKS)) {
            return BAD_VALUE;
        }
        history.record(room);
        int movesBefore = room.moves;
        room.passTicks(ticks);
        return room.moves - movesBefore;
    }

    public int settle() {
        history.record(room);
        return room.ticksUntilRest();
    }

    // ---- what there is; nothing changes

    public int relay(int relay, int what) {
        if (!isRelay(relay)) {
            return NO_SUCH;
        }
        switch (what) {
            case 0:
                return bit(room.up, relay);
            case 1:
                return bit(room.fedRelays(), relay);
            case 2:
                return bit(room.welded, relay);
            case 3:
                return bit(room.wantingRelays(), relay);
            case 4:
                return room.waits[relay];
            case 5:
                return room.operations[relay];
            case 6:
                return room.pickTimes[relay];
            case 7:
                return room.dropTimes[relay];
            case 8:
                return room.branchCounts[relay];
            case 9:
                return bit(room.frontsOfCircuit(relay), relay);
            case 10:
                return room.relaysWithContactOf(relay);
            default:
                return BAD_VALUE;
        }
    }

    public int branch(int relay, int branch, int what) {
        if (!isRelay(relay) || !isWithin(branch, 0, room.branchCounts[relay] - 1)) {
            return NO_SUCH;
        }
        int place = placeOf(relay, branch);
        switch (what) {
            case 0:
                return room.isClosed(place) ? 1 : 0;
            case 1:
                return room.contactCounts[place];
            case 2:
                return room.fronts[place] & RELAY_SET;
            case 3:
                return room.backs[place] & RELAY_SET;
            case 4:
                return room.fronts[place] >> RELAYS & BUTTON_SET;
            case 5:
                return room.backs[place] >> RELAYS & BUTTON_SET;
            default:
                return BAD_VALUE;
        }
    }

    public int count(int what) {
        switch (what) {
            case 0:
                return room.up;
            case 1:
                return room.fedRelays();
            case 2:
                return room.welded;
            case 3:
                return room.wantingRelays();
            case 4:
                return room.buttons;
            case 5:
                return room.ticks;
            case 6:
                return room.moves;
            case 7:
                return room.life;
            case 8:
                return room.relaysWithBranches();
            case 9:
                return room.neverClosedBranches();
            case 10:
                return pad.length;
            case 11:
                return history.size;
            default:
                return BAD_VALUE;
        }
    }

    // ---- what if; nothing changes

    public int ifPressed(int buttons, int ticks) {
        if (!isButtonSet(buttons) || !isWithin(ticks, 0, MOST_TICKS)) {
            return BAD_VALUE;
        }
        tryButtons(buttons);
        trial.passTicks(ticks);
        return trial.up;
    }

    public int rest(int buttons, int what) {
        if (!isButtonSet(buttons) || !isWithin(what, 0, 2)) {
            return BAD_VALUE;
        }
        tryButtons(buttons);
        int up = trial.upAtRest();
        if (up == NONE || what == 0) {
            return up;
        }
        return what == 1 ? trial.ticks - room.ticks : trial.moves - room.moves;
    }

    public int race(int buttons) {
        if (!isButtonSet(buttons)) {
            return BAD_VALUE;
        }
        tryButtons(buttons);
        int up = trial.upAtRest();
        tryButtons(buttons);
        trial.makeAllTimesOne();
        return up == trial.upAtRest() ? 0 : 1;
    }

    public int ifWelded(int relay, int welded) {
        if (!isRelay(relay) || !isRelay(welded)) {
            return NO_SUCH;
        }
        if (relay == welded) {
            return BAD_VALUE;
        }
        tryWelded(welded);
        int up = trial.upAtRest();
        return up == NONE ? NONE : bit(up, relay);
    }

    public int unsafe(int relay) {
        if (!isRelay(relay)) {
            return NO_SUCH;
        }
        int found = 0;
        for (int other = 0; other < RELAYS; other++) {
            tryWelded(other);
            if (other != relay && isUpIn(trial.upAtRest(), relay)) {
                found |= 1 << other;
            }
        }
        return found;
    }

    public int reach(int relay) {
        if (!isRelay(relay)) {
            return NO_SUCH;
        }
        for (int size = 0; size <= BUTTONS; size++) {
            for (int buttons = 0; buttons <= BUTTON_SET; buttons++) {
                if (Integer.bitCount(buttons) != size) {
                    continue;
                }
                tryButtons(buttons);
                if (isUpIn(trial.upAtRest(), relay)) {
                    return buttons;
                }
            }
        }
        return NONE;
    }

    // ---- texts

    public int put(long characters) {
        int added = Pad.lengthOf(characters);
        if (added == 0) {
            return BAD_VALUE;
        }
        if (pad.length + added > MOST_CHARACTERS) {
            return TOO_MANY;
        }
        pad.append(characters, added);
        return pad.length;
    }

    public int wipe() {
        int length = pad.length;
        pad.clear();
        return length;
    }

    public int fault() {
        // What the trial held before is of no matter, as every circuit begins without branches.
        return reader.readInto(trial, pad);
    }

    // ---- undo, saving

    public int undo() {
        if (history.size == 0) {
            return NOT_POSSIBLE;
        }
        history.takeBackTo(room);
        return history.size;
    }

    public int save(int slot) {
        if (!isWithin(slot, 0, SLOTS - 1)) {
            return BAD_VALUE;
        }
        slots[slot].copyFrom(room);
        isSaved[slot] = true;
        return room.up;
    }

    public int restore(int slot) {
        if (!isWithin(slot, 0, SLOTS - 1)) {
            return BAD_VALUE;
        }
        if (!isSaved[slot]) {
            return NOT_POSSIBLE;
        }
        history.record(room);
        room.copyFrom(slots[slot]);
        return room.up;
    }

    // ---- helpers of the calls

    private void tryButtons(int buttons) {
        trial.copyFrom(room);
        trial.buttons = buttons;
    }

    private void tryWelded(int welded) {
        tryButtons(0);
        trial.up |= 1 << welded;
        trial.welded |= 1 << welded;
    }

    /** Apart from a bit test, as NONE is a negative number with bits of its own. */
    private static boolean isUpIn(int upAtRest, int relay) {
        return upAtRest != NONE && isIn(upAtRest, relay);
    }

    private static boolean isRelay(int relay) {
        return isWithin(relay, 0, RELAYS - 1);
    }

    private static boolean isButtonSet(int buttons) {
        return isWithin(buttons, 0, BUTTON_SET);
    }

    private static boolean isWithin(int value, int least, int most) {
        return value >= least && value <= most;
    }

    private static boolean isIn(int set, int member) {
        return bit(set, member) == 1;
    }

    private static int bit(int set, int member) {
        return set >> member & 1;
    }

    private static int placeOf(int relay, int branch) {
        return relay * MOST_BRANCHES + branch;
    }

    /** All that undo, save and restore bring back: the circuits, and how relays and buttons stand. */
    private static final class Room {
        int up;
        int welded;
        int buttons;
        int life;
        int ticks;
        int moves;
        final int[] pickTimes = new int[RELAYS];
        final int[] dropTimes = new int[RELAYS];
        final int[] waits = new int[RELAYS];
        final int[] operations = new int[RELAYS];
        final int[] branchCounts = new int[RELAYS];
        // A branch has a place in these rows; its contacts are bits, the relays' below the buttons'.
        final int[] fronts = new int[RELAYS * MOST_BRANCHES];
        final int[] backs = new int[RELAYS * MOST_BRANCHES];
        // A contact that is told twice is one bit, but counts twice.
        final int[] contactCounts = new int[RELAYS * MOST_BRANCHES];

        Room() {
            for (int relay = 0; relay < RELAYS; relay++) {
                pickTimes[relay] = 2;
                dropTimes[relay] = 1;
            }
        }

        void copyFrom(Room other) {
            up = other.up;
            welded = other.welded;
            buttons = other.buttons;
            life = other.life;
            ticks = other.ticks;
            moves = other.moves;
            System.arraycopy(other.pickTimes, 0, pickTimes, 0, RELAYS);
            System.arraycopy(other.dropTimes, 0, dropTimes, 0, RELAYS);
            System.arraycopy(other.waits, 0, waits, 0, RELAYS);
            System.arraycopy(other.operations, 0, operations, 0, RELAYS);
            System.arraycopy(other.branchCounts, 0, branchCounts, 0, RELAYS);
            System.arraycopy(other.fronts, 0, fronts, 0, RELAYS * MOST_BRANCHES);
            System.arraycopy(other.backs, 0, backs, 0, RELAYS * MOST_BRANCHES);
            System.arraycopy(other.contactCounts, 0, contactCounts, 0, RELAYS * MOST_BRANCHES);
        }

        void makeAllTimesOne() {
            for (int relay = 0; relay < RELAYS; relay++) {
                pickTimes[relay] = 1;
                dropTimes[relay] = 1;
            }
        }

        // ---- ticks

        int fedRelays() {
            int fed = 0;
            for (int relay = 0; relay < RELAYS; relay++) {
                if (isFed(relay)) {
                    fed |= 1 << relay;
                }
            }
            return fed;
        }

        private boolean isFed(int relay) {
            int end = placeOf(relay, branchCounts[relay]);
            for (int place = placeOf(relay, 0); place < end; place++) {
                if (isClosed(place)) {
                    return true;
                }
            }
            return false;
        }

        boolean isClosed(int place) {
            int on = up | buttons << RELAYS;
            return (on & fronts[place]) == fronts[place] && (on & backs[place]) == 0;
        }

        int wantingRelays() {
            return (fedRelays() ^ up) & ~(up & welded);
        }

        void passTicks(int count) {
            for (int passed = 0; passed < count; passed++) {
                passTick(wantingRelays());
            }
        }

        /** Returns how many ticks pass, and NOT_AT_REST more if they are not enough. */
        int ticksUntilRest() {
            for (int passed = 0; passed < MOST_TICKS; passed++) {
                int wanting = wantingRelays();
                if (wanting == 0) {
                    return passed;
                }
                passTick(wanting);
            }
            return wantingRelays() == 0 ? MOST_TICKS : MOST_TICKS + NOT_AT_REST;
        }

        int upAtRest() {
            return ticksUntilRest() <= MOST_TICKS ? up : NONE;
        }

        /** Takes the relays that want to move from outside, as none may see how another one has moved. */
        private void passTick(int wanting) {
            ticks++;
            for (int relay = 0; relay < RELAYS; relay++) {
                if (isIn(wanting, relay)) {
                    waitOrMove(relay);
                } else {
                    waits[relay] = 0;
                }
            }
        }

        private void waitOrMove(int relay) {
            waits[relay]++;
            int time = isIn(up, relay) ? dropTimes[relay] : pickTimes[relay];
            if (waits[relay] >= time) {
                waits[relay] = 0;
                moves++;
                up ^= 1 << relay;
                if (isIn(up, relay)) {
                    wear(relay);
                }
            }
        }

        private void wear(int relay) {
            operations[relay]++;
            if (life != 0 && operations[relay] >= life) {
                welded |= 1 << relay;
            }
        }

        // ---- circuits

        void clearCircuit(int relay) {
            branchCounts[relay] = 0;
        }

        boolean hasRoomForBranch(int relay) {
            return branchCounts[relay] < MOST_BRANCHES;
        }

        void addBranch(int relay) {
            if (hasRoomForBranch(relay)) {
                int place = placeOf(relay, branchCounts[relay]);
                fronts[place] = 0;
                backs[place] = 0;
                contactCounts[place] = 0;
                branchCounts[relay]++;
            }
        }

        boolean hasRoomForContact(int relay) {
            int last = branchCounts[relay] - 1;
            return last >= 0 && contactCounts[placeOf(relay, last)] < MOST_CONTACTS;
        }

        void addContact(int relay, int contact, boolean isBack) {
            int last = branchCounts[relay] - 1;
            if (last >= 0) {
                int place = placeOf(relay, last);
                int[] row = isBack ? backs : fronts;
                row[place] |= 1 << contact;
                contactCounts[place]++;
            }
        }

        int relaysWithBranches() {
            int found = 0;
            for (int relay = 0; relay < RELAYS; relay++) {
                if (branchCounts[relay] > 0) {
                    found++;
                }
            }
            return found;
        }

        int relaysWithContactOf(int relay) {
            int found = 0;
            for (int other = 0; other < RELAYS; other++) {
                if (isIn(frontsOfCircuit(other) | backsOfCircuit(other), relay)) {
                    found |= 1 << other;
                }
            }
            return found;
        }

        int frontsOfCircuit(int relay) {
            return contactsOfCircuit(fronts, relay);
        }

        private int backsOfCircuit(int relay) {
            return contactsOfCircuit(backs, relay);
        }

        private int contactsOfCircuit(int[] row, int relay) {
            int found = 0;
            int end = placeOf(relay, branchCounts[relay]);
            for (int place = placeOf(relay, 0); place < end; place++) {
                found |= row[place];
            }
            return found;
        }

        int neverClosedBranches() {
            int found = 0;
            for (int relay = 0; relay < RELAYS; relay++) {
                int end = placeOf(relay, branchCounts[relay]);
                for (int place = placeOf(relay, 0); place < end; place++) {
                    if ((fronts[place] & backs[place]) != 0) {
                        found++;
                    }
                }
            }
            return found;
        }
    }

    private static final class Pad {
        private static final int CHARACTER_BITS = 8;
        private static final int CHARACTER_MASK = 255;
        private static final int LONG_BITS = 64;
        private static final int LEAST_CODE = 33;
        private static final int MOST_CODE = 126;

        final int[] characters = new int[MOST_CHARACTERS];
        int length;

        /** Returns how many characters a number holds, 0 if it is none of the allowed ones. */
        static int lengthOf(long packed) {
            int count = 0;
            for (long rest = packed; rest != 0 && count < LONG_BITS / CHARACTER_BITS; rest >>>= CHARACTER_BITS) {
                if (!isWithin(lastOf(rest), LEAST_CODE, MOST_CODE)) {
                    return 0;
                }
                count++;
            }
            return count;
        }

        private static int lastOf(long packed) {
            return (int) (packed & CHARACTER_MASK);
        }

        void append(long packed, int count) {
            if (count < 0 || length + count > MOST_CHARACTERS) {
                return;
            }
            long rest = packed;
            for (int i = length + count - 1; i >= length; i--) {
                characters[i] = lastOf(rest);
                rest >>>= CHARACTER_BITS;
            }
            length += count;
        }

        void clear() {
            length = 0;
        }
    }

    /** Reads circuits a character at a time; its place says what may stand next. */
    private static final class Reader {
        private static final int AT_RELAY = 0;
        private static final int AT_EQUALS = 1;
        private static final int AT_CIRCUIT = 2;
        private static final int BEHIND_ZERO = 3;
        private static final int AT_BRANCH = 4;
        private static final int BEHIND_NOT = 5;
        private static final int BEHIND_CONTACT = 6;
        private static final int NO_CONTACT = -1;

        private int place;
        private int relay;

        /** Returns the fault, or NONE; with a fault the target is of no use. */
        int readInto(Room target, Pad pad) {
            place = AT_RELAY;
            for (int i = 0; i < pad.length && i < MOST_CHARACTERS; i++) {
                if (!takes(target, pad.characters[i])) {
                    return i;
                }
            }
            return place == BEHIND_ZERO || place == BEHIND_CONTACT ? NONE : pad.length;
        }

        private boolean takes(Room target, int sign) {
            switch (place) {
                case AT_RELAY:
                    return takesRelay(sign);
                case AT_EQUALS:
                    return takesEquals(target, sign);
                case AT_CIRCUIT:
                    return sign == '0' ? goesTo(BEHIND_ZERO) : takesFirstContact(target, sign);
                case BEHIND_ZERO:
                    return sign == ';' && goesTo(AT_RELAY);
                case AT_BRANCH:
                    return takesFirstContact(target, sign);
                case BEHIND_NOT:
                    return takesContact(target, sign);
                default:
                    return takesNextOfBranch(target, sign);
            }
        }

        private boolean goesTo(int next) {
            place = next;
            return true;
        }

        private boolean takesRelay(int sign) {
            int named = contactOf(sign);
            if (!isRelay(named)) {
                return false;
            }
            relay = named;
            return goesTo(AT_EQUALS);
        }

        private boolean takesEquals(Room target, int sign) {
            if (sign != '=') {
                return false;
            }
            target.clearCircuit(relay);
            return goesTo(AT_CIRCUIT);
        }

        private boolean takesFirstContact(Room target, int sign) {
            target.addBranch(relay);
            return takesContact(target, sign);
        }

        private boolean takesNextOfBranch(Room target, int sign) {
            if (sign == ';') {
                return goesTo(AT_RELAY);
            }
            if (sign == '+') {
                return target.hasRoomForBranch(relay) && goesTo(AT_BRANCH);
            }
            return target.hasRoomForContact(relay) && takesContact(target, sign);
        }

        private boolean takesContact(Room target, int sign) {
            boolean isBack = place == BEHIND_NOT;
            if (sign == '!' && !isBack) {
                return goesTo(BEHIND_NOT);
            }
            int contact = contactOf(sign);
            if (contact == NO_CONTACT) {
                return false;
            }
            target.addContact(relay, contact, isBack);
            return goesTo(BEHIND_CONTACT);
        }

        /** Numbers relays and buttons as the bits of a branch are. */
        private static int contactOf(int sign) {
            if (isWithin(sign, 'A', 'A' + RELAYS - 1)) {
                return sign - 'A';
            }
            if (isWithin(sign, 'a', 'a' + BUTTONS - 1)) {
                return sign - 'a' + RELAYS;
            }
            return NO_CONTACT;
        }
    }

    /** The latest states in a ring, so that dropping the oldest one moves nothing. */
    private static final class History {
        private final Room[] states = new Room[MOST_STATES];
        private int oldest;
        int size;

        History() {
            for (int i = 0; i < MOST_STATES; i++) {
                states[i] = new Room();
            }
        }

        void record(Room room) {
            states[(oldest + size) % MOST_STATES].copyFrom(room);
            if (size < MOST_STATES) {
                size++;
            } else {
                oldest = (oldest + 1) % MOST_STATES;
            }
        }

        void takeBackTo(Room room) {
            if (size > 0) {
                size--;
                room.copyFrom(states[(oldest + size) % MOST_STATES]);
            }
        }
    }
}
