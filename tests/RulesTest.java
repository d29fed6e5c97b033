/** Promises 7 to 12: the pattern buffer, the rules and their stop bytes. */
public final class RulesTest {
    public static void main(String[] args) {
        appends();
        clearsPattern();
        defines();
        defineRejected();
        undefines();
        setsStops();
        readsElements();
        Script.finish();
    }

    private static void appends() {
        new Script(7, "least and greatest byte").calls("append(32) = 1; append(126) = 2; define(0) = 2; element(0, 0) = 32; element(0, 1) = 126");
        new Script(7, "invalid values").calls("append(31) = INVALID; append(127) = INVALID; append(-1) = INVALID; append(MAX) = INVALID; append(MIN) = INVALID; append('a') = 1")
                .errorsAre(5, 0, 0);
        new Script(7, "a full buffer")
                .calls("append('1') = 1; append('2') = 2; append('3') = 3; append('4') = 4; append('5') = 5; append('6') = 6; append('7') = 7; append('8') = 8")
                .calls("append('9') = FULL; append(31) = INVALID; define(2) = 8; element(2, 7) = '8'; element(2, 8) = NONE").errorsAre(1, 0, 1);
        new Script(7, "not undoable").calls("append('a') = 1; undo() = REJECTED; append('b') = 2");
        new Script(7, "kept over undo").calls("append('a') = 1; define(0) = 1; append('b') = 2; undo() = 0; append('c') = 3; define(0) = 3; element(0, 1) = 'b'");
    }

    private static void clearsPattern() {
        new Script(8, "previous length").calls("clearPattern() = 0; append('a') = 1; append('b') = 2; clearPattern() = 2; clearPattern() = 0; append('c') = 1; define(0) = 1; element(0, 0) = 'c'; element(0, 1) = NONE");
        new Script(8, "a full buffer").rule(1, "abcdefgh").calls("clearPattern() = 8; append('x') = 1; element(1, 0) = 'a'");
        new Script(8, "not undoable").calls("append('a') = 1; clearPattern() = 1; undo() = REJECTED; clearPattern() = 0");
    }

    private static void defines() {
        new Script(9, "keeps the buffer").calls("append('a') = 1; define(0) = 1; define(5) = 1; append('b') = 2; define(3) = 2")
                .calls("element(0, 0) = 'a'; element(0, 1) = NONE; element(5, 0) = 'a'; element(3, 1) = 'b'").errorsAre(0, 0, 0);
        new Script(9, "replaces a pattern").rule(0, "abc").rule(0, "x").calls("element(0, 0) = 'x'; element(0, 1) = NONE")
                .calls("undo() = 1; element(0, 0) = 'a'; element(0, 2) = 'c'; undo() = 0; element(0, 0) = NONE");
        new Script(9, "keeps the stop byte").calls("setStop(2, ';') = NONE").rule(2, "a~b").calls("setStop(2, NONE) = ';'").rule(2, "c")
                .calls("setStop(2, 'x') = NONE; undefine(2) = 1").rule(2, "d").calls("setStop(2, NONE) = 'x'");
        new Script(9, "invalid rules").calls("append('a') = 1; define(6) = INVALID; define(-1) = INVALID; define(MAX) = INVALID; define(MIN) = INVALID; undo() = REJECTED")
                .errorsAre(4, 1, 0);
    }

    private static void defineRejected() {
        new Script(9, "an empty buffer").rule(0, "a").calls("clearPattern() = 1; define(0) = REJECTED; element(0, 0) = 'a'; undo() = 0").errorsAre(0, 1, 0);
        for (char first : "~ABCDEF".toCharArray()) {
            new Script(9, "first byte " + first).calls("append('" + first + "') = 1; append('a') = 2; define(0) = REJECTED; element(0, 0) = NONE; undo() = REJECTED; define(6) = INVALID")
                    .errorsAre(1, 2, 0);
        }
        for (char first : "#@Gaf}!0Z".toCharArray()) {
            new Script(9, "first byte " + first).calls("append('" + first + "') = 1; append('A') = 2; append('~') = 3; define(0) = 3; undo() = 0").errorsAre(0, 0, 0);
        }
        new Script(9, "INVALID before REJECTED").calls("define(6) = INVALID").errorsAre(1, 0, 0);
    }

    private static void undefines() {
        new Script(10, "previous number").rule(0, "abc").rule(5, "12345678").text("abc")
                .calls("matchEnd(0, 0) = 3; undefine(0) = 3; matchEnd(0, 0) = NONE; undefine(0) = 0; undefine(5) = 8; element(5, 0) = NONE; element(0, 2) = NONE").errorsAre(0, 0, 0);
        new Script(10, "keeps the stop byte").rule(0, "a").calls("setStop(0, 'x') = NONE; undefine(0) = 1; setStop(0, NONE) = 'x'");
        new Script(10, "undoable").rule(0, "ab").calls("undefine(0) = 2; undefine(0) = 0; undo() = 2; undefine(0) = 0; undo() = 2; undo() = 1; element(0, 1) = 'b'");
        new Script(10, "invalid rules").rule(0, "a").calls("undefine(6) = INVALID; undefine(-1) = INVALID; undefine(MAX) = INVALID; undefine(MIN) = INVALID; undo() = 0").errorsAre(4, 0, 0);
        new Script(10, "keeps the buffer").rule(0, "ab").calls("undefine(0) = 2; append('c') = 3; define(0) = 3; element(0, 2) = 'c'");
    }

    private static void setsStops() {
        new Script(11, "previous stop byte").calls("setStop(0, 32) = NONE; setStop(0, 126) = 32; setStop(0, NONE) = 126; setStop(0, 'a') = NONE; setStop(5, 'b') = NONE; setStop(0, 'c') = 'a'; setStop(5, 'c') = 'b'")
                .errorsAre(0, 0, 0);
        new Script(11, "undoable").calls("setStop(0, 'a') = NONE; setStop(0, 'b') = 'a'; undo() = 1; setStop(0, 'c') = 'a'; setStop(0, 'c') = 'c'; undo() = 2; undo() = 1; undo() = 0; setStop(0, 'x') = NONE");
        new Script(11, "invalid arguments").calls("setStop(-1, 'a') = INVALID; setStop(6, 'a') = INVALID; setStop(MAX, 'a') = INVALID; setStop(MIN, NONE) = INVALID")
                .calls("setStop(0, 31) = INVALID; setStop(0, 127) = INVALID; setStop(0, -2) = INVALID; setStop(0, 0) = INVALID; setStop(0, MAX) = INVALID; setStop(0, MIN) = INVALID")
                .errorsAre(10, 0, 0).calls("undo() = REJECTED; setStop(0, NONE) = NONE");
    }

    private static void readsElements() {
        new Script(12, "ordinary").rule(3, "a#@~AF").calls("element(3, 0) = 'a'; element(3, 1) = '#'; element(3, 2) = '@'; element(3, 3) = '~'; element(3, 4) = 'A'; element(3, 5) = 'F'")
                .calls("element(3, 6) = NONE; element(3, 8) = NONE; element(3, 100) = NONE; element(3, MAX) = NONE; element(2, 0) = NONE").errorsAre(0, 0, 0);
        new Script(12, "neighbours").rule(0, "abcdefgh").rule(1, "1").calls("element(0, 8) = NONE; element(1, 1) = NONE; element(1, 0) = '1'; element(0, 7) = 'h'");
        new Script(12, "invalid arguments").rule(0, "a").calls("element(-1, 0) = INVALID; element(6, 0) = INVALID; element(0, -1) = INVALID; element(0, MIN) = INVALID; element(MAX, MAX) = INVALID; element(MIN, 0) = INVALID").errorsAre(6, 0, 0);
    }
}
