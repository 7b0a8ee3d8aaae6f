import java.util.LinkedHashMap;
import java.util.Map;
import java.util.Set;
import java.util.TreeSet;

/** What a room holds, as a text to compare or call by call: some 60 calls, and 5 for each branch. */
final class Look {
    private Look() {
    }

    /** All that undo, save and restore bring back, by the calls that tell it. */
    static Map<String, Integer> values(WeldedRelays x) {
        Map<String, Integer> values = new LinkedHashMap<>();
        for (int what : new int[] {0, 2, 4, 5, 6, 7}) {
            values.put("count(" + what + ")", x.count(what));
        }
        for (int relay = 0; relay < 10; relay++) {
            for (int what = 4; what <= 8; what++) {
                values.put("relay(" + relay + ", " + what + ")", x.relay(relay, what));
            }
            int branches = x.relay(relay, 8);
            for (int branch = 0; branch < branches; branch++) {
                for (int what = 1; what <= 5; what++) {
                    values.put("branch(" + relay + ", " + branch + ", " + what + ")", x.branch(relay, branch, what));
                }
            }
        }
        return values;
    }

    static String state(WeldedRelays x) {
        return values(x).toString();
    }

    /** The state, and how the pad and the history stand. */
    static Map<String, Integer> allValues(WeldedRelays x) {
        Map<String, Integer> values = values(x);
        values.put("count(10)", x.count(10));
        values.put("count(11)", x.count(11));
        values.put("fault()", x.fault());
        return values;
    }

    static String all(WeldedRelays x) {
        return allValues(x).toString();
    }

    /** The calls that answer otherwise, or are answered in one of the rooms alone. */
    static Set<String> differences(Map<String, Integer> one, Map<String, Integer> other) {
        Set<String> calls = new TreeSet<>(one.keySet());
        calls.addAll(other.keySet());
        calls.removeIf(call -> one.containsKey(call) && one.get(call).equals(other.get(call)));
        return calls;
    }
}
