/** Promises 1 to 6: a new object and the text. */
public final class TextTest {
    public static void main(String[] args) {
        newObject();
        insertsBytes();
        insertEdges();
        insertInvalid();
        insertFull();
        replacesBytes();
        replaceInvalid();
        deletesBytes();
        deleteInvalid();
        tellsLength();
        readsBytes();
        Script.finish();
    }

    private static void newObject() {
        Script script = new Script(1, "a new object")
                .calls("length() = 0; undo() = REJECTED; errorCount(0) = 0; errorCount(1) = 1; errorCount(2) = 0")
                .calls("clearPattern() = 0; define(0) = REJECTED; nodeCount() = 0; islandCount() = 0")
                .calls("waterLength() = 0; longestWater() = 0");
        for (int rule = 0; rule < 6; rule++) {
            script.calls("element(" + rule + ", 0) = NONE; matchEnd(" + rule + ", 0) = NONE; countOf(" + rule + ") = 0");
            script.calls("undefine(" + rule + ") = 0; setStop(" + rule + ", NONE) = NONE");
        }
        new Script(1, "no stop byte").calls("setStop(0, 'a') = NONE; setStop(5, 'a') = NONE");
        Script first = new Script(1, "two objects");
        first.rule(0, "a").text("a").calls("nodeCount() = 1");
        new Script(1, "an object beside another").calls("length() = 0; nodeCount() = 0; element(0, 0) = NONE");
        first.textIs("a");
    }

    private static void insertsBytes() {
        new Script(2, "in order").text("abc").textIs("abc").errorsAre(0, 0, 0);
        new Script(2, "at the front").calls("insert(0, 'c') = 1; insert(0, 'b') = 2; insert(0, 'a') = 3").textIs("abc");
        new Script(2, "in the middle").text("ad").calls("insert(1, 'c') = 3; insert(1, 'b') = 4").textIs("abcd");
        new Script(2, "undoable").text("ab").calls("insert(1, 'x') = 3; undo() = 2").textIs("ab");
    }

    private static void insertEdges() {
        new Script(2, "least and greatest byte").calls("insert(0, 32) = 1; insert(1, 126) = 2")
                .calls("byteAt(0) = 32; byteAt(1) = 126").errorsAre(0, 0, 0);
    }

    private static void insertInvalid() {
        new Script(2, "invalid arguments").text("ab")
                .calls("insert(-1, 'x') = INVALID; insert(3, 'x') = INVALID; insert(MIN, 'x') = INVALID; insert(MAX, 'x') = INVALID")
                .calls("insert(0, 31) = INVALID; insert(0, 127) = INVALID; insert(0, -1) = INVALID; insert(0, MAX) = INVALID; insert(0, MIN) = INVALID")
                .textIs("ab").errorsAre(9, 0, 0)
                .calls("undo() = 1");
    }

    private static void insertFull() {
        Script script = new Script(2, "a full text");
        script.text("x".repeat(99)).calls("insert(0, 'y') = 100; insert(0, 'z') = FULL; insert(100, 'z') = FULL; length() = 100");
        script.textIs("y" + "x".repeat(99)).errorsAre(0, 0, 2);
        script.calls("insert(101, 'z') = INVALID; insert(0, 31) = INVALID").errorsAre(2, 0, 2);
        script.calls("undo() = 3; length() = 99; insert(99, 'q') = 100; byteAt(99) = 'q'");
    }

    private static void replacesBytes() {
        new Script(3, "ordinary").text("abc")
                .calls("replace(0, 'x') = 'a'; replace(1, 'y') = 'b'; replace(2, 'z') = 'c'; replace(2, 'w') = 'z'")
                .textIs("xyw").errorsAre(0, 0, 0);
        new Script(3, "least and greatest byte").text("a").calls("replace(0, 32) = 'a'; replace(0, 126) = 32; byteAt(0) = 126");
        new Script(3, "undoable").text("ab").calls("replace(0, 'x') = 'a'; replace(0, 'x') = 'x'; undo() = 3; undo() = 2").textIs("ab");
    }

    private static void replaceInvalid() {
        new Script(3, "invalid arguments").calls("replace(0, 'x') = INVALID").text("ab")
                .calls("replace(-1, 'x') = INVALID; replace(2, 'x') = INVALID; replace(MAX, 'x') = INVALID; replace(MIN, 'x') = INVALID")
                .calls("replace(0, 31) = INVALID; replace(0, 127) = INVALID; replace(0, NONE) = INVALID")
                .textIs("ab").errorsAre(8, 0, 0).calls("undo() = 1");
    }

    private static void deletesBytes() {
        new Script(4, "one byte").text("abc").calls("delete(1, 1) = 2").textIs("ac").errorsAre(0, 0, 0);
        new Script(4, "at the front").text("abcde").calls("delete(0, 2) = 3").textIs("cde");
        new Script(4, "up to the end").text("abcde").calls("delete(3, 2) = 3").textIs("abc").calls("byteAt(3) = INVALID");
        new Script(4, "all").text("abcde").calls("delete(0, 5) = 0").textIs("").calls("delete(0, 1) = INVALID");
        new Script(4, "undoable").text("abcde").calls("delete(1, 3) = 2; undo() = 3").textIs("abcde");
        new Script(4, "then text again").text("abcde").calls("delete(1, 3) = 2; insert(2, 'x') = 3").textIs("aex");
        Script full = new Script(4, "a full text").text("x".repeat(100));
        full.calls("delete(0, 100) = 0; length() = 0; undo() = 3; length() = 100; delete(99, 1) = 99; insert(0, 'a') = 100");
    }

    private static void deleteInvalid() {
        new Script(4, "invalid arguments").calls("delete(0, 0) = INVALID; delete(0, 1) = INVALID").text("abc")
                .calls("delete(-1, 1) = INVALID; delete(3, 1) = INVALID; delete(3, 0) = INVALID; delete(MIN, 1) = INVALID")
                .calls("delete(0, 0) = INVALID; delete(0, -1) = INVALID; delete(0, 4) = INVALID; delete(2, 2) = INVALID")
                .calls("delete(1, MAX) = INVALID; delete(2, MAX) = INVALID; delete(MAX, MAX) = INVALID; delete(0, MIN) = INVALID; delete(2, MIN) = INVALID")
                .textIs("abc").errorsAre(15, 0, 0).calls("undo() = 2");
    }

    private static void tellsLength() {
        new Script(5, "rises and falls").calls("length() = 0").text("ab").calls("length() = 2; delete(0, 1) = 1; length() = 1")
                .calls("replace(0, 'x') = 'b'; length() = 1; undo() = 3; undo() = 2; length() = 2; append('a') = 1; length() = 2");
    }

    private static void readsBytes() {
        new Script(6, "ordinary").text("a ~").calls("byteAt(0) = 'a'; byteAt(1) = 32; byteAt(2) = 126").errorsAre(0, 0, 0);
        new Script(6, "invalid positions").calls("byteAt(0) = INVALID").text("ab")
                .calls("byteAt(2) = INVALID; byteAt(-1) = INVALID; byteAt(MAX) = INVALID; byteAt(MIN) = INVALID").errorsAre(5, 0, 0);
        new Script(6, "a deleted byte").text("ab").calls("delete(1, 1) = 1; byteAt(1) = INVALID; byteAt(0) = 'a'");
    }
}
