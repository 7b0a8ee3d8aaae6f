/** What a room holds, as a text to compare: some 60 calls, and 5 for each branch. */
final class Look {
    private Look() {
    }

    /** All that undo, save and restore bring back. */
    static String state(WeldedRelays x) {
        StringBuilder state = new StringBuilder();
        for (int what : new int[] {0, 2, 4, 5, 6, 7}) {
            state.append(x.count(what)).append(' ');
        }
        for (int relay = 0; relay < 10; relay++) {
            for (int what = 4; what <= 8; what++) {
                state.append(x.relay(relay, what)).append(' ');
            }
            int branches = x.relay(relay, 8);
            for (int branch = 0; branch < branches; branch++) {
                for (int what = 1; what <= 5; what++) {
                    state.append(x.branch(relay, branch, what)).append(' ');
                }
            }
        }
        return state.toString();
    }

    /** The state, and how the pad and the history stand. */
    static String all(WeldedRelays x) {
        return state(x) + x.count(10) + " " + x.count(11) + " " + x.fault();
    }
}
