import java.util.ArrayList;
import java.util.HashMap;
import java.util.List;
import java.util.Map;

/**
 * The document read word by word, for ModelTest: matching goes forward and calls itself, where
 * the program fills a table backward. It keeps no table between two calls.
 */
final class Model {
    private static final int NONE = -1;
    private static final int INVALID = -2;
    private static final int REJECTED = -3;
    private static final int FULL = -4;

    /** Text, rules and stop bytes: what undo restores. */
    private static final class Saved {
        String text = "";
        final String[] rules = {"", "", "", "", "", ""};
        final int[] stops = {NONE, NONE, NONE, NONE, NONE, NONE};

        Saved copy() {
            Saved copy = new Saved();
            copy.text = text;
            System.arraycopy(rules, 0, copy.rules, 0, 6);
            System.arraycopy(stops, 0, copy.stops, 0, 6);
            return copy;
        }
    }

    private static final class Node {
        int rule;
        int start;
        int end;
        int water;
        int number = NONE;
        Node parent;
    }

    private Saved now = new Saved();
    private final List<Saved> stack = new ArrayList<>();
    private String buffer = "";
    private final int[] errors = new int[3];
    private final Map<Integer, Integer> known = new HashMap<>();
    private List<Node> nodes = null;
    private boolean[] isTopWater;

    private int fail(int code) {
        errors[-2 - code]++;
        return code;
    }

    private void save() {
        stack.add(now.copy());
        if (stack.size() > 4) {
            stack.remove(0);
        }
        changed();
    }

    private void changed() {
        known.clear();
        nodes = null;
    }

    private static boolean isByte(int value) {
        return 32 <= value && value <= 126;
    }

    private boolean isInside(int position) {
        return 0 <= position && position < now.text.length();
    }

    long answer(String method, int a, int b) {
        switch (method) {
            case "insert": return insert(a, b);
            case "replace": return replace(a, b);
            case "delete": return delete(a, b);
            case "length": return now.text.length();
            case "byteAt": return isInside(a) ? now.text.charAt(a) : fail(INVALID);
            case "append": return append(a);
            case "clearPattern": return clearPattern();
            case "define": return define(a);
            case "undefine": return undefine(a);
            case "setStop": return setStop(a, b);
            case "element": return element(a, b);
            case "matchEnd": return matchEnd(a, b);
            case "undo": return undo();
            case "errorCount": return 0 <= a && a < 3 ? errors[a] : fail(INVALID);
            case "digest": return digest();
            default: return parseAnswer(method, a);
        }
    }

    private long parseAnswer(String method, int a) {
        parse();
        switch (method) {
            case "nodeCount": return nodes.size();
            case "islandCount": return nodes.stream().filter(node -> node.parent == null).count();
            case "nodeAt": return nodeAt(a);
            case "waterLength": return waterLength();
            case "longestWater": return longestWater();
            case "countOf": return a < 0 || a > 5 ? fail(INVALID) : nodes.stream().filter(node -> node.rule == a).count();
            default: break;
        }
        if (a < 0 || a >= nodes.size()) {
            return fail(INVALID);
        }
        Node node = nodes.get(a);
        switch (method) {
            case "nodeRule": return node.rule;
            case "nodeStart": return node.start;
            case "nodeEnd": return node.end;
            case "nodeParent": return nodes.indexOf(node.parent);
            case "nodeDepth": return depth(node);
            case "nodeWater": return node.water;
            case "nodeNumber": return node.number;
            default: throw new IllegalStateException(method);
        }
    }

    private int insert(int position, int value) {
        if (position < 0 || position > now.text.length() || !isByte(value)) {
            return fail(INVALID);
        }
        if (now.text.length() == 100) {
            return fail(FULL);
        }
        save();
        now.text = now.text.substring(0, position) + (char) value + now.text.substring(position);
        return now.text.length();
    }

    private int replace(int position, int value) {
        if (!isInside(position) || !isByte(value)) {
            return fail(INVALID);
        }
        save();
        int previous = now.text.charAt(position);
        now.text = now.text.substring(0, position) + (char) value + now.text.substring(position + 1);
        return previous;
    }

    private int delete(int position, int count) {
        if (!isInside(position) || count < 1 || (long) position + count > now.text.length()) {
            return fail(INVALID);
        }
        save();
        now.text = now.text.substring(0, position) + now.text.substring(position + count);
        return now.text.length();
    }

    private int append(int value) {
        if (!isByte(value)) {
            return fail(INVALID);
        }
        if (buffer.length() == 8) {
            return fail(FULL);
        }
        buffer += (char) value;
        return buffer.length();
    }

    private int clearPattern() {
        int previous = buffer.length();
        buffer = "";
        return previous;
    }

    private int define(int rule) {
        if (rule < 0 || rule > 5) {
            return fail(INVALID);
        }
        if (buffer.isEmpty() || "~ABCDEF".indexOf(buffer.charAt(0)) >= 0) {
            return fail(REJECTED);
        }
        save();
        now.rules[rule] = buffer;
        return buffer.length();
    }

    private int undefine(int rule) {
        if (rule < 0 || rule > 5) {
            return fail(INVALID);
        }
        save();
        int previous = now.rules[rule].length();
        now.rules[rule] = "";
        return previous;
    }

    private int setStop(int rule, int value) {
        if (rule < 0 || rule > 5 || (value != NONE && !isByte(value))) {
            return fail(INVALID);
        }
        save();
        int previous = now.stops[rule];
        now.stops[rule] = value;
        return previous;
    }

    private int element(int rule, int index) {
        if (rule < 0 || rule > 5 || index < 0) {
            return fail(INVALID);
        }
        return index < now.rules[rule].length() ? now.rules[rule].charAt(index) : NONE;
    }

    private int matchEnd(int rule, int position) {
        if (rule < 0 || rule > 5 || position < 0 || position > now.text.length()) {
            return fail(INVALID);
        }
        return match(rule, 0, position);
    }

    private int undo() {
        if (stack.isEmpty()) {
            return fail(REJECTED);
        }
        now = stack.remove(stack.size() - 1);
        changed();
        return stack.size();
    }

    /** Where the rule ends if its elements from an index on begin at a position. */
    private int match(int rule, int index, int position) {
        int key = (rule * 10 + index) * 1000 + position;
        Integer before = known.get(key);
        if (before == null) {
            before = matchAnew(rule, index, position);
            known.put(key, before);
        }
        return before;
    }

    private int matchAnew(int rule, int index, int position) {
        String pattern = now.rules[rule];
        if (pattern.isEmpty()) {
            return NONE;
        }
        if (index == pattern.length()) {
            return position;
        }
        if (pattern.charAt(index) == '~') {
            return matchWater(rule, index, position);
        }
        int end = part(pattern.charAt(index), position);
        return end == NONE ? NONE : match(rule, index + 1, end);
    }

    private int matchWater(int rule, int index, int start) {
        for (int position = start; ; ) {
            int end = match(rule, index + 1, position);
            if (end != NONE) {
                return end;
            }
            int nested = lowest(position);
            if (nested != NONE) {
                position = match(nested, 0, position);
            } else if (position == now.text.length() || now.text.charAt(position) == now.stops[rule]) {
                return NONE;
            } else {
                position++;
            }
        }
    }

    /** The end of an element that is not WATER. */
    private int part(char element, int position) {
        int end = position;
        if (element == '#') {
            while (isInside(end) && "0123456789".indexOf(now.text.charAt(end)) >= 0) {
                end++;
            }
            return end > position ? end : NONE;
        }
        if (element == '@') {
            while (isInside(end) && "abcdefghijklmnopqrstuvwxyz".indexOf(now.text.charAt(end)) >= 0) {
                end++;
            }
            return end > position ? end : NONE;
        }
        if ("ABCDEF".indexOf(element) >= 0) {
            return match("ABCDEF".indexOf(element), 0, position);
        }
        return isInside(position) && now.text.charAt(position) == element ? position + 1 : NONE;
    }

    private int lowest(int position) {
        for (int rule = 0; rule < 6; rule++) {
            if (match(rule, 0, position) != NONE) {
                return rule;
            }
        }
        return NONE;
    }

    private void parse() {
        if (nodes != null) {
            return;
        }
        nodes = new ArrayList<>();
        isTopWater = new boolean[now.text.length()];
        int position = 0;
        while (position < now.text.length()) {
            int rule = lowest(position);
            if (rule == NONE) {
                isTopWater[position] = true;
                position++;
            } else {
                position = grow(rule, position, null);
            }
        }
        nodes.sort((one, other) -> Integer.compare(one.start, other.start));
    }

    /** Adds the node of an island that matches, with its nested ones, and tells its end. */
    private int grow(int rule, int start, Node parent) {
        Node node = new Node();
        node.rule = rule;
        node.start = start;
        node.parent = parent;
        nodes.add(node);
        String pattern = now.rules[rule];
        int position = start;
        for (int index = 0; index < pattern.length(); index++) {
            char element = pattern.charAt(index);
            if (element == '~') {
                while (match(rule, index + 1, position) == NONE) {
                    int nested = lowest(position);
                    if (nested == NONE) {
                        node.water++;
                        position++;
                    } else {
                        position = grow(nested, position, node);
                    }
                }
            } else if ("ABCDEF".indexOf(element) >= 0) {
                position = grow("ABCDEF".indexOf(element), position, node);
            } else {
                int end = part(element, position);
                if (element == '#' && pattern.indexOf('#') == index) {
                    node.number = new java.math.BigInteger(now.text.substring(position, end))
                            .mod(java.math.BigInteger.valueOf(1000000)).intValue();
                }
                position = end;
            }
        }
        node.end = position;
        return position;
    }

    private static int depth(Node node) {
        int depth = 0;
        for (Node above = node.parent; above != null; above = above.parent) {
            depth++;
        }
        return depth;
    }

    private int nodeAt(int position) {
        if (!isInside(position)) {
            return fail(INVALID);
        }
        Node innermost = null;
        for (Node node : nodes) {
            boolean contains = node.start <= position && position < node.end;
            if (contains && (innermost == null || depth(node) > depth(innermost))) {
                innermost = node;
            }
        }
        return nodes.indexOf(innermost);
    }

    private int waterLength() {
        int length = 0;
        for (boolean water : isTopWater) {
            length += water ? 1 : 0;
        }
        return length;
    }

    private int longestWater() {
        int longest = 0;
        int run = 0;
        for (boolean water : isTopWater) {
            run = water ? run + 1 : 0;
            longest = Math.max(longest, run);
        }
        return longest;
    }

    private long digest() {
        parse();
        List<Long> values = new ArrayList<>();
        for (int error : errors) {
            values.add((long) error);
        }
        values.add((long) buffer.length());
        values.add((long) stack.size());
        values.add((long) now.text.length());
        now.text.chars().forEach(value -> values.add((long) value));
        for (int rule = 0; rule < 6; rule++) {
            values.add((long) now.rules[rule].length());
            now.rules[rule].chars().forEach(value -> values.add((long) value));
            values.add((long) now.stops[rule]);
        }
        values.add((long) nodes.size());
        for (Node node : nodes) {
            values.add((long) node.rule);
            values.add((long) node.start);
            values.add((long) node.end);
            values.add((long) nodes.indexOf(node.parent));
            values.add((long) node.water);
            values.add((long) node.number);
        }
        values.add((long) waterLength());
        values.add((long) longestWater());
        long hash = 17305;
        for (long value : values) {
            hash = 31 * hash + value;
        }
        return hash;
    }
}
