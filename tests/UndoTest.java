/** Promises 27 to 29: undo, the error counters and the digest. */
public final class UndoTest {
    private static final int[] NO_STOPS = {-1, -1, -1, -1, -1, -1};

    public static void main(String[] args) {
        undoes();
        keepsFour();
        savesAllOfIt();
        savesNothingElse();
        failedCallsSaveNothing();
        countsErrors();
        digests();
        digestOfEachValue();
        Script.finish();
    }

    private static void undoes() {
        new Script(27, "an empty stack").calls("undo() = REJECTED; undo() = REJECTED").errorsAre(0, 2, 0);
        new Script(27, "one by one").text("abc").calls("undo() = 2").textIs("ab").calls("undo() = 1").textIs("a").calls("undo() = 0").textIs("").calls("undo() = REJECTED").textIs("").errorsAre(0, 1, 0);
        new Script(27, "is not undone itself").text("ab").calls("undo() = 1; insert(1, 'x') = 2; undo() = 1; undo() = 0").textIs("");
        new Script(27, "calls that change nothing").text("a").calls("replace(0, 'a') = 'a'; undefine(0) = 0; setStop(0, NONE) = NONE; undo() = 3; undo() = 2; undo() = 1").textIs("a").calls("undo() = 0").textIs("");
    }

    private static void keepsFour() {
        new Script(27, "four states").text("abcdef").calls("undo() = 3; undo() = 2; undo() = 1; undo() = 0; undo() = REJECTED").textIs("ab");
        new Script(27, "again and again").text("abcdef").calls("undo() = 3; undo() = 2").textIs("abcd").text("xyz").textIs("abcdxyz").calls("undo() = 3; undo() = 2; undo() = 1").textIs("abcd").calls("undo() = 0").textIs("abc").calls("undo() = REJECTED").textIs("abc");
        Script long1 = new Script(27, "after many calls").text("a".repeat(60));
        for (int turn = 0; turn < 30; turn++) {
            long1.calls("delete(0, 1) = 59; replace(0, 'b') = 'a'; undo() = 3; undo() = 2; length() = 60; insert(0, 'c') = 61; undo() = 2");
        }
    }

    private static void savesAllOfIt() {
        new Script(27, "the text").text("abc").calls("replace(1, 'x') = 'b'; delete(0, 2) = 1; undo() = 3").textIs("axc").calls("undo() = 2").textIs("abc");
        new Script(27, "the rules").rule(0, "ab").rule(0, "x~y").calls("undefine(0) = 3; undo() = 2; element(0, 0) = 'x'; element(0, 1) = '~'; element(0, 2) = 'y'; element(0, 3) = NONE; undo() = 1; element(0, 0) = 'a'; element(0, 1) = 'b'; element(0, 2) = NONE; undo() = 0; element(0, 0) = NONE");
        new Script(27, "the stop bytes").calls("setStop(0, 'a') = NONE; setStop(5, 'b') = NONE; setStop(0, 'c') = 'a'; undo() = 2; undo() = 1; setStop(5, 'x') = NONE; setStop(0, 'y') = 'a'");
        new Script(27, "all together").rule(0, "a~b").text("ab").calls("setStop(0, 'x') = NONE; insert(1, 'x') = 3; matchEnd(0, 0) = NONE; setStop(0, NONE) = 'x'; matchEnd(0, 0) = 3; undo() = 3; matchEnd(0, 0) = NONE; undo() = 2; matchEnd(0, 0) = 2; undo() = 1; setStop(0, 'q') = NONE");
    }

    private static void savesNothingElse() {
        new Script(27, "the pattern buffer stays").rule(0, "a").calls("append('b') = 2; undo() = 0; append('c') = 3; clearPattern() = 3; undo() = REJECTED");
        new Script(27, "the error counters stay").text("a").calls("byteAt(9) = INVALID; undo() = 0").errorsAre(1, 0, 0).calls("undo() = REJECTED; insert(0, 'x') = 1; undo() = 0").errorsAre(1, 1, 0);
    }

    private static void failedCallsSaveNothing() {
        new Script(27, "failed calls").calls("insert(1, 'a') = INVALID; replace(0, 'a') = INVALID; delete(0, 1) = INVALID; define(0) = REJECTED; define(6) = INVALID; undefine(6) = INVALID; setStop(6, 'a') = INVALID; setStop(0, 0) = INVALID; undo() = REJECTED");
        new Script(27, "calls that ask").text("a").calls("length() = 1; byteAt(0) = 'a'; append('a') = 1; element(0, 0) = NONE; matchEnd(0, 0) = NONE; nodeCount() = 0; nodeAt(0) = NONE; countOf(0) = 0; errorCount(0) = 0; clearPattern() = 1; undo() = 0; undo() = REJECTED");
        new Script(27, "a full text").text("a".repeat(100)).calls("insert(0, 'x') = FULL; undo() = 3; length() = 99");
    }

    private static void countsErrors() {
        new Script(28, "each kind").errorsAre(0, 0, 0).calls("byteAt(0) = INVALID").errorsAre(1, 0, 0).calls("undo() = REJECTED; undo() = REJECTED").errorsAre(1, 2, 0)
                .rule(0, "12345678").calls("append('9') = FULL; append('9') = FULL; append('9') = FULL").errorsAre(1, 2, 3);
        new Script(28, "an invalid kind is counted").calls("errorCount(3) = INVALID; errorCount(-1) = INVALID; errorCount(MAX) = INVALID; errorCount(MIN) = INVALID; errorCount(-2) = INVALID").errorsAre(5, 0, 0);
        new Script(28, "only the first error is counted").text("a".repeat(100)).calls("insert(101, 'a') = INVALID; insert(0, 200) = INVALID; define(9) = INVALID").errorsAre(3, 0, 0);
        new Script(28, "NONE is no error").calls("element(0, 0) = NONE; matchEnd(0, 0) = NONE; setStop(0, NONE) = NONE").errorsAre(0, 0, 0);
        new Script(28, "undo of a full text").text("a".repeat(100)).calls("insert(0, 'a') = FULL; undo() = 3; insert(0, 'a') = 100; insert(0, 'a') = FULL").errorsAre(0, 0, 2);
    }

    private static void digests() {
        new Script(29, "a new object").digestIs(0, 0, NO_STOPS);
        new Script(29, "a text").text("ab").digestIs(0, 2, NO_STOPS);
        new Script(29, "errors and a buffer").calls("byteAt(0) = INVALID; undo() = REJECTED; append('a') = 1").digestIs(1, 0, NO_STOPS);
        new Script(29, "rules and nodes").rule(0, "(~)").text("x(1(2)3)y(").digestIs(3, 4, NO_STOPS);
        new Script(29, "numbers").rule(0, "a#").calls("setStop(3, ';') = NONE").text("a12a7xyz").digestIs(2, 4, -1, -1, -1, ';', -1, -1);
        new Script(29, "a text that was deleted").rule(0, "a#").text("a12a7xyz").calls("delete(2, 6) = 2; undefine(0) = 2; undo() = 3").digestIs(2, 3, NO_STOPS);
        new Script(29, "asking counts no error").rule(0, "a#").text("a12").digestIs(2, 4, NO_STOPS).errorsAre(0, 0, 0);
        Script same = new Script(29, "answered twice").rule(0, "#").text("1a2");
        same.due("digest()", same.grammar().digest(), same.grammar().digest());
    }

    /** A change of any value of the state changes the digest. */
    private static void digestOfEachValue() {
        differ("the text", "insert(0, 'a') = 1", "insert(0, 'b') = 1");
        differ("the saved states", "length() = 0", "undefine(0) = 0");
        differ("the buffer's length", "length() = 0", "append('a') = 1");
        differ("a stop byte", "setStop(0, 'a') = NONE", "setStop(0, 'b') = NONE");
        differ("the rule of a stop byte", "setStop(0, 'a') = NONE", "setStop(1, 'a') = NONE");
        differ("a pattern", "append('a') = 1; define(0) = 1", "append('b') = 1; define(0) = 1");
        differ("a pattern's rule", "append('a') = 1; define(0) = 1", "append('a') = 1; define(5) = 1");
        differ("an INVALID", "length() = 0", "byteAt(0) = INVALID");
        differ("a REJECTED", "byteAt(0) = INVALID", "undo() = REJECTED");
        Script one = new Script(29, "the buffer's bytes don't count").calls("append('a') = 1");
        Script other = new Script(29, "the buffer's bytes don't count").calls("append('b') = 1");
        one.due("digest()", one.grammar().digest(), other.grammar().digest());
    }

    private static void differ(String title, String oneCalls, String otherCalls) {
        Script one = new Script(29, title).calls(oneCalls);
        Script other = new Script(29, title).calls(otherCalls);
        one.due("two different states have the same digest", one.grammar().digest() == other.grammar().digest() ? 1 : 0, 0);
    }
}
