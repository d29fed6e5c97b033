import java.lang.reflect.InvocationTargetException;
import java.lang.reflect.Method;
import java.math.BigInteger;
import java.util.ArrayList;
import java.util.List;

/**
 * Calls on a new IslandGrammar with the answers that are due, in the notation of the document:
 * "insert(0, 'a') = 1; byteAt(5) = INVALID". Each wrong answer is printed.
 */
final class Script {
    /** The document promises nothing about an object's later calls, so no test makes them. */
    private static final int LAST_CALL = 512;

    private static int wrong = 0;
    private static int answered = 0;

    private final String title;
    private final IslandGrammar grammar = new IslandGrammar();
    private int calls = 0;

    /** A promise's number, or 0 for the section "Terms". */
    Script(int promise, String title) {
        this.title = (promise == 0 ? "Terms" : "promise " + promise) + ", " + title;
    }

    /** Defines a rule by way of an emptied pattern buffer. */
    Script rule(int rule, String pattern) {
        grammar().clearPattern();
        for (int index = 0; index < pattern.length(); index++) {
            due("append('" + pattern.charAt(index) + "')",
                    grammar().append(pattern.charAt(index)), index + 1);
        }
        due("define(" + rule + ")", grammar().define(rule), pattern.length());
        return this;
    }

    /** Inserts bytes at the end of the text. */
    Script text(String bytes) {
        int length = grammar().length();
        for (int index = 0; index < bytes.length(); index++) {
            due("insert('" + bytes.charAt(index) + "') at the end",
                    grammar().insert(length + index, bytes.charAt(index)), length + index + 1);
        }
        return this;
    }

    Script calls(String calls) {
        for (String line : split(calls, ';')) {
            call(line.strip());
        }
        return this;
    }

    /** Checks the answers for node 0, 1 and so on: each("nodeEnd", 4, 7) is nodeEnd(0) = 4; nodeEnd(1) = 7. */
    Script each(String method, long... wanted) {
        for (int index = 0; index < wanted.length; index++) {
            call(method + "(" + index + ") = " + wanted[index]);
        }
        return this;
    }

    /** The text, read back byte by byte. */
    Script textIs(String wanted) {
        StringBuilder bytes = new StringBuilder();
        int length = grammar().length();
        for (int index = 0; index < length; index++) {
            bytes.append((char) grammar().byteAt(index));
        }
        if (!bytes.toString().equals(wanted)) {
            report("the text", bytes.toString(), wanted);
        }
        answered++;
        return this;
    }

    /** The error counters. */
    Script errorsAre(int invalid, int rejected, int full) {
        return calls("errorCount(0) = " + invalid + "; errorCount(1) = " + rejected
                + "; errorCount(2) = " + full);
    }

    /** The digest, from the answers of the other methods and from what none of them tells. */
    Script digestIs(int bufferSize, int saved, int... stops) {
        long got = grammar().digest();
        due("digest()", got, hashOf(valuesOf(bufferSize, saved, stops)));
        return this;
    }

    /** The object, for one call. */
    IslandGrammar grammar() {
        calls++;
        if (calls == LAST_CALL + 1) {
            report("the test", "a call beyond the last", Integer.toString(LAST_CALL));
        }
        return grammar;
    }

    void due(String call, long got, long wanted) {
        answered++;
        if (got != wanted) {
            report(call, Long.toString(got), Long.toString(wanted));
        }
    }

    /** Ends the program: with exit code 1 if an answer was wrong. */
    static void finish() {
        System.out.println(answered + " answers, " + wrong + " wrong");
        if (wrong != 0 || answered == 0) {
            System.exit(1);
        }
    }

    /** Reckoned without a bound; its lowest 64 bits are what long arithmetic leaves. */
    static long hashOf(List<Integer> values) {
        BigInteger hash = BigInteger.valueOf(17305);
        for (int value : values) {
            hash = hash.multiply(BigInteger.valueOf(31)).add(BigInteger.valueOf(value));
        }
        return hash.longValue();
    }

    private List<Integer> valuesOf(int bufferSize, int saved, int... stops) {
        List<Integer> values = new ArrayList<>();
        for (int kind = 0; kind < 3; kind++) {
            values.add(grammar().errorCount(kind));
        }
        int length = grammar().length();
        values.addAll(List.of(bufferSize, saved, length));
        for (int position = 0; position < length; position++) {
            values.add(grammar().byteAt(position));
        }
        for (int rule = 0; rule < 6; rule++) {
            List<Integer> pattern = patternOf(rule);
            values.add(pattern.size());
            values.addAll(pattern);
            values.add(stops[rule]);
        }
        int nodes = grammar().nodeCount();
        values.add(nodes);
        for (int node = 0; node < nodes; node++) {
            values.addAll(List.of(grammar().nodeRule(node), grammar().nodeStart(node), grammar().nodeEnd(node),
                    grammar().nodeParent(node), grammar().nodeWater(node), grammar().nodeNumber(node)));
        }
        values.addAll(List.of(grammar().waterLength(), grammar().longestWater()));
        return values;
    }

    private List<Integer> patternOf(int rule) {
        List<Integer> pattern = new ArrayList<>();
        for (int index = 0; index < 8; index++) {
            int element = grammar().element(rule, index);
            if (element == IslandGrammar.NONE) {
                break;
            }
            pattern.add(element);
        }
        return pattern;
    }

    private void report(String call, String got, String wanted) {
        wrong++;
        System.out.println(title + ": " + call + " answered " + got + ", due is " + wanted);
    }

    private void call(String line) {
        if (line.isEmpty()) {
            return;
        }
        int equals = line.lastIndexOf(" = ");
        String call = line.substring(0, equals);
        long wanted = valueOf(line.substring(equals + 3).strip());
        int open = call.indexOf('(');
        String name = call.substring(0, open);
        List<Integer> arguments = new ArrayList<>();
        for (String argument : split(call.substring(open + 1, call.length() - 1), ',')) {
            if (!argument.isBlank()) {
                arguments.add((int) valueOf(argument.strip()));
            }
        }
        try {
            due(call, invoke(name, arguments.toArray()), wanted);
        } catch (InvocationTargetException thrown) {
            report(call, thrown.getCause().toString(), Long.toString(wanted));
        } catch (ReflectiveOperationException missing) {
            report(call, missing.toString(), Long.toString(wanted));
        }
    }

    private long invoke(String name, Object[] arguments) throws ReflectiveOperationException {
        Class<?>[] types = new Class<?>[arguments.length];
        java.util.Arrays.fill(types, int.class);
        Method method = IslandGrammar.class.getMethod(name, types);
        return ((Number) method.invoke(grammar(), arguments)).longValue();
    }

    private static long valueOf(String word) {
        if (word.length() == 3 && word.charAt(0) == '\'') {
            return word.charAt(1);
        }
        switch (word) {
            case "NONE": return -1;
            case "INVALID": return -2;
            case "REJECTED": return -3;
            case "FULL": return -4;
            case "MIN": return Integer.MIN_VALUE;
            case "MAX": return Integer.MAX_VALUE;
            default: return Long.parseLong(word);
        }
    }

    /** Splits at a separator that doesn't stand between quotes. */
    private static List<String> split(String words, char separator) {
        List<String> parts = new ArrayList<>();
        int start = 0;
        for (int index = 0; index < words.length(); index++) {
            if (words.charAt(index) == '\'') {
                index += 2;
            } else if (words.charAt(index) == separator) {
                parts.add(words.substring(start, index));
                start = index + 1;
            }
        }
        parts.add(words.substring(start));
        return parts;
    }
}
