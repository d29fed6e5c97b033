/**
 * Terms, ERRORS: "A method that fails returns an error code and changes nothing except the
 * counter of that error, which grows by 1." Each refused call stands beside an object that met
 * the same error before anything else: their digests must be the same from there on.
 */
public final class RefusedTest {
    private static final String INVALID = "errorCount(3) = INVALID";
    private static final String REJECTED = "undo() = REJECTED";
    private static final String FULL = "append('1') = 1; append('2') = 2; append('3') = 3; append('4') = 4; append('5') = 5; "
            + "append('6') = 6; append('7') = 7; append('8') = 8; append('9') = FULL; clearPattern() = 8";
    private static final String FULL_BUFFER = "append('4') = 4; append('5') = 5; append('6') = 6; append('7') = 7; append('8') = 8";
    private static final String EMPTY_STACK = "undo() = 3; undo() = 2; undo() = 1; undo() = 0";

    private static final String TEXT = "x(a12(b)c)d;a7.";
    private static final String FULL_TEXT = "x(a12b)".repeat(14) + "(a";

    public static void main(String[] args) {
        text();
        rules();
        parse();
        undo();
        Script.finish();
    }

    /** Text, rules, stop bytes, nodes, a buffer with three bytes and four different saved states. */
    private static Script rich(int promise, String title, String before, String text) {
        return new Script(promise, title).calls(before).rule(0, "(~)").rule(1, "a#").rule(5, "@;B").text(text)
                .calls("setStop(0, ';') = NONE; setStop(5, 126) = NONE; delete(0, 1) = " + (text.length() - 1) + "; insert(0, 'y') = " + text.length())
                .calls("clearPattern() = 3; append('b') = 1; append('~') = 2; append('c') = 3");
    }

    private static void refused(int promise, String before, String setup, String... calls) {
        for (String call : calls) {
            compare(promise, before, TEXT, setup, call);
        }
    }

    private static void refusedInFullText(int promise, String before, String... calls) {
        for (String call : calls) {
            compare(promise, before, FULL_TEXT, "", call);
        }
    }

    private static void compare(int promise, String before, String text, String setup, String call) {
        String error = before.equals(INVALID) ? "INVALID" : before.equals(REJECTED) ? "REJECTED" : "FULL";
        Script refused = rich(promise, "refused " + call, "", text).calls(setup).calls(call + " = " + error);
        Script twin = rich(promise, "twin of refused " + call, before, text).calls(setup);
        same("digest() behind it", refused, twin);
        // The saved states and the bytes of the buffer are told by what comes of them.
        for (int left = setup.equals(EMPTY_STACK) ? -1 : 3; left >= 0; left--) {
            refused.calls("undo() = " + left);
            twin.calls("undo() = " + left);
            same("digest() with " + left + " states left", refused, twin);
        }
        refused.due("define(4)", refused.grammar().define(4), twin.grammar().define(4));
        same("digest() behind define(4)", refused, twin);
    }

    private static void same(String what, Script refused, Script twin) {
        refused.due(what, refused.grammar().digest(), twin.grammar().digest());
    }

    private static void text() {
        refused(2, INVALID, "", "insert(-1, 'a')", "insert(16, 'a')", "insert(0, 31)", "insert(0, 127)", "insert(15, NONE)", "insert(16, 31)", "insert(MAX, MAX)", "insert(MIN, 'a')");
        refusedInFullText(2, FULL, "insert(0, 'a')", "insert(50, 'a')", "insert(100, 'a')", "insert(99, 32)", "insert(100, 126)");
        refusedInFullText(2, INVALID, "insert(101, 'a')", "insert(-1, 'a')", "insert(100, 31)", "insert(100, 127)");
        refused(3, INVALID, "", "replace(-1, 'a')", "replace(15, 'a')", "replace(0, 31)", "replace(14, 127)", "replace(15, 127)", "replace(MAX, 'a')", "replace(MIN, 'a')");
        refusedInFullText(3, INVALID, "replace(100, 'a')", "replace(99, 31)");
        refused(4, INVALID, "", "delete(-1, 1)", "delete(15, 1)", "delete(15, 0)", "delete(0, 0)", "delete(0, -1)", "delete(0, 16)", "delete(14, 2)", "delete(1, MAX)", "delete(MIN, MIN)");
        refused(6, INVALID, "", "byteAt(-1)", "byteAt(15)", "byteAt(MAX)", "byteAt(MIN)");
    }

    private static void rules() {
        refused(7, INVALID, "", "append(31)", "append(127)", "append(NONE)", "append(MAX)", "append(MIN)");
        refused(7, INVALID, FULL_BUFFER, "append(31)", "append(127)");
        refused(7, FULL, FULL_BUFFER, "append(32)", "append(126)", "append('9')");
        refused(9, INVALID, "", "define(-1)", "define(6)", "define(MAX)", "define(MIN)");
        refused(9, INVALID, "clearPattern() = 3", "define(-1)", "define(6)");
        refused(9, INVALID, "clearPattern() = 3; append('~') = 1", "define(-1)", "define(6)");
        refused(9, REJECTED, "clearPattern() = 3", "define(0)", "define(3)", "define(5)");
        for (char first : "~ABCDEF".toCharArray()) {
            refused(9, REJECTED, "clearPattern() = 3; append('" + first + "') = 1; append('a') = 2", "define(0)", "define(3)", "define(5)");
        }
        refused(10, INVALID, "", "undefine(-1)", "undefine(6)", "undefine(MAX)", "undefine(MIN)");
        refused(11, INVALID, "", "setStop(-1, 'a')", "setStop(6, 'a')", "setStop(0, 31)", "setStop(5, 127)", "setStop(0, -2)", "setStop(6, NONE)", "setStop(6, 31)", "setStop(0, MAX)", "setStop(0, MIN)");
        refused(12, INVALID, "", "element(-1, 0)", "element(6, 0)", "element(0, -1)", "element(6, 100)", "element(MIN, MIN)");
    }

    private static void parse() {
        refused(13, INVALID, "", "matchEnd(-1, 0)", "matchEnd(6, 0)", "matchEnd(0, -1)", "matchEnd(0, 16)", "matchEnd(6, 16)", "matchEnd(4, MAX)");
        String[] methods = {"nodeRule", "nodeStart", "nodeEnd", "nodeParent", "nodeDepth", "nodeWater", "nodeNumber"};
        for (int index = 0; index < methods.length; index++) {
            refused(16 + index, INVALID, "", methods[index] + "(-1)", methods[index] + "(5)", methods[index] + "(MAX)", methods[index] + "(MIN)");
        }
        refused(23, INVALID, "", "nodeAt(-1)", "nodeAt(15)", "nodeAt(MAX)", "nodeAt(MIN)");
        refused(26, INVALID, "", "countOf(-1)", "countOf(6)", "countOf(MAX)", "countOf(MIN)");
    }

    private static void undo() {
        refused(27, REJECTED, EMPTY_STACK, "undo()");
        refused(28, INVALID, "", "errorCount(-1)", "errorCount(3)", "errorCount(MAX)", "errorCount(MIN)");
    }
}
