import java.util.ArrayList;
import java.util.Collections;
import java.util.List;

/**
 * The boundary cases that the document names, in its order: "Terms" first, then promise by
 * promise. What a refused call leaves unchanged is looked at by RefusedTest.
 */
public final class EdgesTest {
    private static final String[] NODE_METHODS = {
        "nodeRule", "nodeStart", "nodeEnd", "nodeParent", "nodeDepth", "nodeWater", "nodeNumber"};
    private static final String FULL_TEXT = "abcde".repeat(20);
    private static final int FIRST_BYTE = 32;
    private static final int LAST_BYTE = 126;
    private static final int CALLS = 512;

    public static void main(String[] args) {
        bytes();
        rules();
        references();
        patternLengths();
        literals();
        digitsAndLetters();
        stopBytes();
        waterAtTheEnds();
        waterAtTheEndOfTheText();
        parseAtTheEnds();
        savedStates();
        orderOfErrors();
        lastCalls();
        newObject();
        insertion();
        replacement();
        deletion();
        readingTheText();
        patternBuffer();
        definition();
        undefinition();
        settingStops();
        elements();
        matchEnds();
        counts();
        nodes();
        lastNode();
        numbers();
        innermost();
        topLevelWater();
        undoing();
        errorKinds();
        digests();
        fullestRules();
        fullestParse();
        Script.finish();
    }

    // ---- Terms

    private static Script terms(String title) {
        return new Script(0, title);
    }

    /** "each from 32 to 126": so are the bytes of a pattern and the stop bytes. */
    private static void bytes() {
        Script text = terms("each byte of the text").calls("insert(0, 'x') = 1");
        Script buffer = terms("each byte of a pattern");
        Script stops = terms("each stop byte");
        int previous = -1;
        for (int value = FIRST_BYTE; value <= LAST_BYTE; value++) {
            text.calls("replace(0, " + value + ") = " + (previous == -1 ? 'x' : previous));
            text.calls("byteAt(0) = " + value + "; insert(1, " + value + ") = 2; byteAt(1) = " + value + "; delete(1, 1) = 1");
            buffer.calls("append(" + value + ") = 1; clearPattern() = 1");
            stops.calls("setStop(3, " + value + ") = " + previous);
            previous = value;
        }
        for (int value : new int[] {31, 127, 0, -1, 128, 255, 256 + 'a', Integer.MIN_VALUE, Integer.MAX_VALUE}) {
            text.calls("replace(0, " + value + ") = INVALID; insert(0, " + value + ") = INVALID");
            buffer.calls("append(" + value + ") = INVALID");
            if (value != -1) {
                stops.calls("setStop(3, " + value + ") = INVALID");
            }
        }
        text.textIs("~").errorsAre(18, 0, 0);
        buffer.calls("clearPattern() = 0").errorsAre(9, 0, 0);
        stops.calls("setStop(3, NONE) = 126; setStop(3, NONE) = NONE").errorsAre(8, 0, 0);
    }

    /** "There are 6 rules, numbered 0 to 5." */
    private static void rules() {
        Script script = terms("the rules").calls("append('a') = 1");
        for (int rule = 0; rule <= 5; rule++) {
            script.calls("define(" + rule + ") = 1; element(" + rule + ", 0) = 'a'; matchEnd(" + rule + ", 0) = NONE")
                    .calls("setStop(" + rule + ", 'x') = NONE; countOf(" + rule + ") = 0; undefine(" + rule + ") = 1");
        }
        script.errorsAre(0, 0, 0);
        int invalid = 0;
        for (int rule : new int[] {-1, 6, 7, 'A', Integer.MIN_VALUE, Integer.MAX_VALUE}) {
            script.calls("define(" + rule + ") = INVALID; element(" + rule + ", 0) = INVALID; matchEnd(" + rule + ", 0) = INVALID")
                    .calls("setStop(" + rule + ", 'x') = INVALID; countOf(" + rule + ") = INVALID; undefine(" + rule + ") = INVALID");
            invalid += 6;
        }
        script.errorsAre(invalid, 0, 0);
    }

    /** "also named A to F": the bytes just below and above them are no references. */
    private static void references() {
        for (int rule = 0; rule <= 5; rule++) {
            int other = rule == 5 ? 0 : 5;
            terms("the name of rule " + rule).rule(rule, "x").rule(other, "<" + (char) ('A' + rule) + ">").text("<x>")
                    .calls("matchEnd(" + other + ", 0) = 3; nodeRule(1) = " + rule + "; undefine(" + rule + ") = 1; matchEnd(" + other + ", 0) = NONE");
        }
        terms("G is a literal").rule(0, "x").rule(5, "y").rule(1, "<G>").text("<G><x><y>").calls("matchEnd(1, 0) = 3; matchEnd(1, 3) = NONE; matchEnd(1, 6) = NONE");
        terms("@ is LETTERS").rule(0, "1").rule(1, "<@>").text("<1><b><@>").calls("matchEnd(1, 0) = NONE; matchEnd(1, 3) = 6; matchEnd(1, 6) = NONE");
        terms("a to f are literals").rule(0, "x").rule(1, "<a>").text("<a><x>").calls("matchEnd(1, 0) = 3; matchEnd(1, 3) = NONE");
        terms("a reference to an undefined rule").rule(1, "<A>").text("<>").calls("matchEnd(1, 0) = NONE").rule(0, "1").text("<1>").calls("matchEnd(1, 2) = 5");
    }

    /** "a pattern of 1 to 8 elements" */
    private static void patternLengths() {
        for (int size = 1; size <= 8; size++) {
            terms(size + " elements").rule(5, "12345678".substring(0, size)).text("12345678")
                    .calls("matchEnd(5, 0) = " + size + "; element(5, " + (size - 1) + ") = " + ('0' + size) + "; element(5, " + size + ") = NONE")
                    .calls("delete(" + (size - 1) + ", 1) = 7; matchEnd(5, 0) = NONE");
        }
        terms("an undefined rule never matches").text("a").calls("matchEnd(0, 0) = NONE; matchEnd(0, 1) = NONE; nodeCount() = 0").rule(0, "a").calls("nodeCount() = 1; undefine(0) = 1; nodeCount() = 0; matchEnd(0, 0) = NONE; matchEnd(0, 1) = NONE");
    }

    /** "every other byte (LITERAL) matches itself" */
    private static void literals() {
        for (int value = FIRST_BYTE; value <= LAST_BYTE; value++) {
            if ("#@~ABCDEF".indexOf(value) >= 0) {
                continue;
            }
            int above = value == LAST_BYTE ? FIRST_BYTE : value + 1;
            terms("literal " + value).calls("append('(') = 1; append(" + value + ") = 2; define(0) = 2; insert(0, '(') = 1; insert(1, " + value + ") = 2")
                    .calls("matchEnd(0, 0) = 2; replace(1, " + above + ") = " + value + "; matchEnd(0, 0) = NONE");
        }
        for (char value : "#@~ABCDEF".toCharArray()) {
            terms("no literal " + value).calls("append('(') = 1; append('" + value + "') = 2; append(')') = 3; define(5) = 3")
                    .calls("insert(0, '(') = 1; insert(1, '" + value + "') = 2; insert(2, ')') = 3; matchEnd(5, 0) = " + (value == '~' ? 3 : -1));
        }
    }

    /** "one or more decimal digits", "one or more letters a to z" */
    private static void digitsAndLetters() {
        for (int value = FIRST_BYTE; value <= LAST_BYTE; value++) {
            int digits = value >= '0' && value <= '9' ? 1 : -1;
            int letters = value >= 'a' && value <= 'z' ? 1 : -1;
            terms("digit or letter " + value).rule(0, "#").rule(1, "@").calls("insert(0, " + value + ") = 1; matchEnd(0, 0) = " + digits + "; matchEnd(1, 0) = " + letters);
        }
        terms("no digit, no letter").rule(0, "(#)").rule(1, "[@]").text("()[](1)[a]").calls("matchEnd(0, 0) = NONE; matchEnd(1, 2) = NONE; matchEnd(0, 4) = 7; matchEnd(1, 7) = 10");
        terms("digits in a full text").rule(0, "#").rule(1, "#1").text("1".repeat(100)).calls("matchEnd(0, 0) = 100; matchEnd(0, 99) = 100; matchEnd(0, 100) = NONE; matchEnd(1, 0) = NONE; matchEnd(1, 98) = NONE; matchEnd(1, 99) = NONE");
        terms("letters in a full text").rule(0, "@").rule(1, "@a").text("a".repeat(100)).calls("matchEnd(0, 0) = 100; matchEnd(0, 99) = 100; matchEnd(0, 100) = NONE; matchEnd(1, 0) = NONE; matchEnd(1, 98) = NONE; matchEnd(1, 99) = NONE");
        terms("a run that became shorter").rule(0, "#").rule(1, "@").text("123abc").calls("delete(2, 1) = 5; matchEnd(0, 0) = 2; matchEnd(1, 2) = 5; delete(4, 1) = 4; matchEnd(1, 2) = 4; delete(2, 2) = 2; matchEnd(0, 0) = 2; matchEnd(1, 2) = NONE");
    }

    /** "The water of the rule may not contain the stop byte outside of nested islands." */
    private static void stopBytes() {
        terms("the stop byte 32").rule(0, "a~b").calls("setStop(0, 32) = NONE").text("a b").calls("matchEnd(0, 0) = NONE; replace(1, 33) = 32; matchEnd(0, 0) = 3");
        terms("the stop byte 126").rule(0, "a~b").calls("setStop(0, 126) = NONE").text("a~b").calls("matchEnd(0, 0) = NONE; replace(1, 125) = 126; matchEnd(0, 0) = 3");
        terms("first and last in the water").rule(0, "a~b").calls("setStop(0, ';') = NONE").text("a;xb").calls("matchEnd(0, 0) = NONE; replace(1, 'x') = ';'; matchEnd(0, 0) = 4; replace(2, ';') = 'x'; matchEnd(0, 0) = NONE");
        terms("behind a nested island").rule(0, "a~b").rule(1, "<~>").calls("setStop(0, ';') = NONE").text("a<;>;b").calls("matchEnd(0, 0) = NONE; delete(4, 1) = 5; matchEnd(0, 0) = 5");
        terms("of an undefined rule").calls("setStop(0, ';') = NONE").rule(0, "a~b").text("a;b").calls("matchEnd(0, 0) = NONE; undefine(0) = 3").rule(0, "a~b").calls("matchEnd(0, 0) = NONE");
        terms("no water at all").rule(0, "a~;").calls("setStop(0, ';') = NONE").text("a;").calls("matchEnd(0, 0) = 2");
        terms("not in top-level water").rule(0, "a").calls("setStop(0, ';') = NONE").text(";a;").calls("nodeCount() = 1; waterLength() = 2");
    }

    /** WATER (1): "An empty rest matches at every position." */
    private static void waterAtTheEnds() {
        terms("an empty rest at the stop byte").rule(0, "a~").calls("setStop(0, ';') = NONE").text("a;").calls("matchEnd(0, 0) = 1; nodeWater(0) = 0");
        terms("an empty rest at an island").rule(0, "a~").rule(1, "b").text("ab").calls("matchEnd(0, 0) = 1; nodeCount() = 2; nodeParent(1) = NONE");
        terms("an empty rest at the end of a full text").rule(0, "a~").text("x".repeat(99) + "a").calls("matchEnd(0, 99) = 100; nodeWater(0) = 0");
        terms("seven waters").rule(0, "a~~~~~~~").text("ab").calls("matchEnd(0, 0) = 1; nodeWater(0) = 0");
        terms("six waters and an end").rule(0, "a~~~~~~b").text("a" + "x".repeat(98) + "b").calls("matchEnd(0, 0) = 100; nodeWater(0) = 98");
    }

    /** WATER (3): "if p is the end of the text ... the WATER fails" */
    private static void waterAtTheEndOfTheText() {
        terms("an empty rest of the text").rule(0, "a~b").text("a").calls("matchEnd(0, 0) = NONE");
        terms("bytes that are gone").rule(0, "a~b").text("axxb").calls("matchEnd(0, 0) = 4; delete(3, 1) = 3; matchEnd(0, 0) = NONE; delete(2, 1) = 2; matchEnd(0, 0) = NONE; delete(1, 1) = 1; matchEnd(0, 0) = NONE");
        terms("bytes that are gone, with a stop byte").rule(0, "a~b").calls("setStop(0, ';') = NONE").text("axxb").calls("matchEnd(0, 0) = 4; delete(2, 2) = 2; matchEnd(0, 0) = NONE");
        terms("a stop byte in a full text").rule(0, "a~b").calls("setStop(0, ';') = NONE").text("b" + "a".repeat(99)).calls("matchEnd(0, 1) = NONE; matchEnd(0, 99) = NONE; nodeCount() = 0; replace(99, 'b') = 'a'; matchEnd(0, 98) = 100");
        terms("a nested island that ends there").rule(0, "a~b").rule(1, "x#").text("ax12").calls("matchEnd(0, 0) = NONE; islandCount() = 1; nodeStart(0) = 1");
        terms("a nested island that ends a full text").rule(0, "a~b").rule(1, "x#").text("ax" + "1".repeat(98)).calls("matchEnd(0, 0) = NONE; matchEnd(1, 1) = 100; islandCount() = 1");
    }

    /** PARSE: "from position 0 on", to the end of the text. */
    private static void parseAtTheEnds() {
        terms("an empty text").rule(0, "a").calls("nodeCount() = 0; islandCount() = 0; waterLength() = 0; longestWater() = 0; matchEnd(0, 0) = NONE");
        terms("one byte").rule(0, "a").text("a").calls("nodeCount() = 1; nodeStart(0) = 0; nodeEnd(0) = 1; waterLength() = 0");
        terms("the first and the last byte").rule(0, "a").text("axa").calls("nodeCount() = 2; nodeStart(0) = 0; nodeStart(1) = 2; nodeEnd(1) = 3");
        terms("an island of the whole text").rule(0, "a~b").text("a" + "x".repeat(98) + "b").calls("nodeCount() = 1; nodeStart(0) = 0; nodeEnd(0) = 100; nodeWater(0) = 98; waterLength() = 0; nodeAt(0) = 0; nodeAt(99) = 0");
        terms("a full text that became empty").rule(0, "a").text("a".repeat(100)).calls("nodeCount() = 100; delete(0, 100) = 0; nodeCount() = 0; islandCount() = 0; waterLength() = 0; longestWater() = 0; countOf(0) = 0");
    }

    /** UNDO: "also if it leaves them unchanged", "the latest 4 saved states and drops older ones" */
    private static void savedStates() {
        terms("each undoable call saves").calls("insert(0, 'a') = 1; undo() = 0; insert(0, 'a') = 1; replace(0, 'b') = 'a'; undo() = 1; delete(0, 1) = 0; undo() = 1; append('x') = 1; define(0) = 1; undo() = 1; undefine(0) = 0; undo() = 1; setStop(0, 'a') = NONE; undo() = 1; undo() = 0; undo() = REJECTED");
        terms("a replace by the same byte").text("a").calls("replace(0, 'a') = 'a'; undo() = 1; undo() = 0");
        terms("a define by the same pattern").rule(0, "ab").calls("define(0) = 2; undo() = 1; element(0, 1) = 'b'; undo() = 0; element(0, 1) = NONE");
        terms("an undefine of an undefined rule").calls("undefine(0) = 0; undo() = 0");
        terms("a setStop of the same byte").calls("setStop(0, NONE) = NONE; setStop(1, 'a') = NONE; setStop(1, 'a') = 'a'; undo() = 2; undo() = 1; undo() = 0");
        terms("calls that are not undoable").text("a").calls("length() = 1; byteAt(0) = 'a'; append('a') = 1; clearPattern() = 1; element(0, 0) = NONE; matchEnd(0, 0) = NONE; nodeAt(0) = NONE; errorCount(0) = 0; undo() = 0; undo() = REJECTED");
        terms("unchanged states push older ones out").text("a").calls("undefine(0) = 0; undefine(0) = 0; undefine(0) = 0; undefine(0) = 0; undo() = 3; undo() = 2; undo() = 1; undo() = 0; undo() = REJECTED; length() = 1");
    }

    /** ERRORS: "INVALID is returned before REJECTED, and REJECTED before FULL", NONE last. */
    private static void orderOfErrors() {
        terms("INVALID before FULL in the text").text(FULL_TEXT).calls("insert(101, 'a') = INVALID; insert(-1, 'a') = INVALID; insert(0, 31) = INVALID; insert(100, 127) = INVALID; insert(100, 'a') = FULL").errorsAre(4, 0, 1);
        terms("INVALID before FULL in the buffer").rule(0, "12345678").calls("append(31) = INVALID; append(127) = INVALID; append(32) = FULL; append(126) = FULL").errorsAre(2, 0, 2);
        terms("INVALID before REJECTED, an empty buffer").calls("define(-1) = INVALID; define(6) = INVALID; define(0) = REJECTED; define(5) = REJECTED").errorsAre(2, 2, 0);
        terms("INVALID before REJECTED, a wrong first byte").calls("append('A') = 1; define(-1) = INVALID; define(6) = INVALID; define(0) = REJECTED").errorsAre(2, 1, 0);
        terms("INVALID before NONE").calls("element(6, 0) = INVALID; element(-1, MAX) = INVALID; element(0, -1) = INVALID; matchEnd(6, 0) = INVALID; matchEnd(0, 1) = INVALID; nodeParent(0) = INVALID; nodeNumber(0) = INVALID; nodeAt(0) = INVALID; setStop(6, NONE) = INVALID").errorsAre(9, 0, 0);
        terms("two wrong arguments are one error").text("ab").calls("insert(-1, 31) = INVALID").errorsAre(1, 0, 0).calls("replace(2, 127) = INVALID").errorsAre(2, 0, 0).calls("delete(2, 0) = INVALID").errorsAre(3, 0, 0)
                .calls("setStop(6, 31) = INVALID").errorsAre(4, 0, 0).calls("element(6, -1) = INVALID").errorsAre(5, 0, 0).calls("matchEnd(6, 3) = INVALID").errorsAre(6, 0, 0);
    }

    /** "at most 512 calls": the last of them is answered like the first. */
    private static void lastCalls() {
        Script invalid = terms("511 failed calls");
        Script rejected = terms("511 rejected calls");
        Script full = terms("501 full calls").rule(0, "12345678");
        Script changes = terms("511 changes").calls("insert(0, 'a') = 1");
        for (int call = 1; call < CALLS; call++) {
            invalid.calls("byteAt(0) = INVALID");
            rejected.calls("undo() = REJECTED");
            changes.calls(call < CALLS - 1 ? "replace(0, 'b') = " + (call == 1 ? "'a'" : "'b'") : "undo() = 3");
        }
        // The rule takes ten calls: an emptied buffer, eight bytes and define.
        for (int call = 11; call < CALLS; call++) {
            full.calls("append('9') = FULL");
        }
        invalid.calls("errorCount(0) = 511");
        rejected.calls("errorCount(1) = 511");
        full.calls("errorCount(2) = 501");
        Script inserts = terms("inserts and deletes").text(FULL_TEXT);
        // To put the text in and to read it back takes 101 calls each.
        for (int call = 101; call < CALLS - 101; call += 2) {
            inserts.calls("delete(99, 1) = 99; insert(99, 'e') = 100");
        }
        inserts.textIs(FULL_TEXT);
    }

    // ---- Promises 1 to 6

    /** "an empty text, undefined rules, no stop bytes, an empty pattern buffer and an empty undo stack" */
    private static void newObject() {
        Script script = new Script(1, "nothing in it").calls("length() = 0; clearPattern() = 0; nodeCount() = 0; byteAt(0) = INVALID").errorsAre(1, 0, 0);
        script.calls("undo() = REJECTED").errorsAre(1, 1, 0);
        for (int rule = 0; rule <= 5; rule++) {
            new Script(1, "rule " + rule).calls("element(" + rule + ", 0) = NONE; undefine(" + rule + ") = 0; setStop(" + rule + ", 'a') = NONE; undo() = 1; undo() = 0; undo() = REJECTED");
        }
    }

    /** "position: 0 to the length of the text", "FULL if the text has 100 bytes" */
    private static void insertion() {
        new Script(2, "an empty text").calls("insert(1, 'a') = INVALID; insert(-1, 'a') = INVALID; insert(0, 'a') = 1; insert(2, 'a') = INVALID; insert(1, 'b') = 2").textIs("ab").errorsAre(3, 0, 0);
        Script full = new Script(2, "99 bytes").text("b".repeat(99)).calls("insert(100, 'x') = INVALID; insert(0, 'a') = 100").textIs("a" + "b".repeat(99)).errorsAre(1, 0, 0);
        for (int position = 0; position <= 100; position++) {
            full.calls("insert(" + position + ", 'x') = FULL");
        }
        full.textIs("a" + "b".repeat(99)).errorsAre(1, 0, 101);
        new Script(2, "the last byte").text("b".repeat(99)).calls("insert(99, 'a') = 100; insert(99, 'a') = FULL; undo() = 3; insert(50, 'c') = 100").textIs("b".repeat(50) + "c" + "b".repeat(49));
    }

    /** "position: 0 to the length of the text minus 1" */
    private static void replacement() {
        new Script(3, "an empty text").calls("replace(0, 'a') = INVALID; replace(-1, 'a') = INVALID; undo() = REJECTED; length() = 0").errorsAre(2, 1, 0);
        new Script(3, "one byte").text("a").calls("replace(1, 'b') = INVALID; replace(0, 'b') = 'a'; length() = 1").textIs("b").errorsAre(1, 0, 0);
        new Script(3, "a full text").text(FULL_TEXT).calls("replace(100, 'x') = INVALID; replace(-1, 'x') = INVALID; replace(0, 'x') = 'a'; replace(99, 'y') = 'e'; length() = 100")
                .textIs("x" + FULL_TEXT.substring(1, 99) + "y").errorsAre(2, 0, 0);
        new Script(3, "behind a deleted byte").text("ab").calls("delete(1, 1) = 1; replace(1, 'x') = INVALID; insert(1, 'c') = 2").textIs("ac");
    }

    /** "count: 1 or more; position + count must not exceed the length of the text" */
    private static void deletion() {
        new Script(4, "an empty text").calls("delete(0, 0) = INVALID; delete(0, 1) = INVALID; delete(-1, 1) = INVALID; delete(-1, 2) = INVALID; undo() = REJECTED").errorsAre(4, 1, 0);
        new Script(4, "one byte").text("a").calls("delete(0, 2) = INVALID; delete(1, 1) = INVALID; delete(0, 0) = INVALID; delete(0, 1) = 0; delete(0, 1) = INVALID").textIs("").errorsAre(4, 0, 0);
        Script full = new Script(4, "a full text").text(FULL_TEXT).calls("delete(100, 1) = INVALID; delete(99, 2) = INVALID; delete(0, 101) = INVALID; delete(50, 51) = INVALID; delete(100, 0) = INVALID; delete(99, 0) = INVALID; delete(-1, 101) = INVALID").textIs(FULL_TEXT).errorsAre(7, 0, 0);
        full.calls("delete(99, 1) = 99").textIs(FULL_TEXT.substring(0, 99)).calls("undo() = 3; delete(50, 50) = 50").textIs(FULL_TEXT.substring(0, 50)).calls("undo() = 3; delete(0, 100) = 0; undo() = 3").textIs(FULL_TEXT);
        new Script(4, "position + count overflows").text("abc").calls("delete(1, MAX) = INVALID; delete(2, 2147483646) = INVALID; delete(MAX, 1) = INVALID; delete(MAX, MAX) = INVALID; delete(MIN, MIN) = INVALID; delete(MIN, MAX) = INVALID").textIs("abc").errorsAre(6, 0, 0);
    }

    private static void readingTheText() {
        new Script(5, "0 to 100").calls("length() = 0").text("a").calls("length() = 1").text("b".repeat(98)).calls("length() = 99").text("c").calls("length() = 100; insert(0, 'x') = FULL; length() = 100; delete(0, 100) = 0; length() = 0").errorsAre(0, 0, 1);
        new Script(6, "an empty text").calls("byteAt(0) = INVALID; byteAt(-1) = INVALID").errorsAre(2, 0, 0);
        new Script(6, "one byte").text("a").calls("byteAt(0) = 'a'; byteAt(1) = INVALID; byteAt(-1) = INVALID").errorsAre(2, 0, 0);
        new Script(6, "a full text").text(FULL_TEXT).calls("byteAt(0) = 'a'; byteAt(99) = 'e'; byteAt(100) = INVALID; byteAt(-1) = INVALID; byteAt(MAX) = INVALID; byteAt(MIN) = INVALID").errorsAre(4, 0, 0);
        new Script(6, "bytes behind the text").text(FULL_TEXT).calls("delete(1, 99) = 1; byteAt(0) = 'a'; byteAt(1) = INVALID; byteAt(99) = INVALID").errorsAre(2, 0, 0);
    }

    // ---- Promises 7 to 12

    /** "FULL if the buffer has 8 bytes" */
    private static void patternBuffer() {
        Script script = new Script(7, "up to 8 bytes");
        for (int size = 1; size <= 8; size++) {
            script.calls("append(" + ('0' + size) + ") = " + size);
        }
        script.calls("append('9') = FULL; append('9') = FULL; define(0) = 8; element(0, 7) = '8'; element(0, 8) = NONE").errorsAre(0, 0, 2);
        script.calls("clearPattern() = 8; clearPattern() = 0; append('9') = 1; define(0) = 1; element(0, 0) = '9'; element(0, 1) = NONE").errorsAre(0, 0, 2);
        new Script(7, "a full buffer is not emptied by define").rule(0, "12345678").calls("append('9') = FULL; define(1) = 8; append('9') = FULL; undo() = 1; append('9') = FULL").errorsAre(0, 0, 3);
        new Script(8, "its previous length").calls("clearPattern() = 0; append('a') = 1; clearPattern() = 1; append(31) = INVALID; clearPattern() = 0").errorsAre(1, 0, 0);
    }

    /** "REJECTED if the buffer is empty or its first byte is '~' or 'A' to 'F'" */
    private static void definition() {
        new Script(9, "an empty buffer").calls("define(0) = REJECTED; append('a') = 1; clearPattern() = 1; define(0) = REJECTED; element(0, 0) = NONE; undo() = REJECTED").errorsAre(0, 3, 0);
        for (int first = FIRST_BYTE; first <= LAST_BYTE; first++) {
            boolean good = first != '~' && (first < 'A' || first > 'F');
            new Script(9, "first byte " + first).calls("append(" + first + ") = 1; define(5) = " + (good ? "1" : "REJECTED") + "; element(5, 0) = " + (good ? first : -1))
                    .errorsAre(0, good ? 0 : 1, 0).calls("clearPattern() = 1; append('x') = 1; append(" + first + ") = 2; define(0) = 2; element(0, 1) = " + first);
        }
        new Script(9, "a refused define keeps the rule").rule(0, "ab").calls("clearPattern() = 2; append('~') = 1; append('c') = 2; define(0) = REJECTED; element(0, 0) = 'a'; element(0, 1) = 'b'; clearPattern() = 2; undo() = 0; element(0, 0) = NONE").errorsAre(0, 1, 0);
        new Script(9, "a shorter pattern").rule(0, "12345678").rule(0, "1").calls("element(0, 0) = '1'; element(0, 1) = NONE; undefine(0) = 1").text("1").calls("matchEnd(0, 0) = NONE; define(0) = 1; matchEnd(0, 0) = 1");
        new Script(9, "a reference that is gone").rule(5, "z").rule(0, "xF").rule(0, "x").text("xy").calls("matchEnd(0, 0) = 1; nodeCount() = 1; nodeAt(1) = NONE; waterLength() = 1");
        new Script(9, "the stop byte stays").calls("setStop(5, 32) = NONE").rule(5, "a").calls("setStop(5, 126) = 32").rule(5, "b").calls("setStop(5, NONE) = 126");
    }

    /** "the previous number of elements, 0 if the rule was undefined" */
    private static void undefinition() {
        new Script(10, "undefined").calls("undefine(0) = 0; undefine(5) = 0; undefine(5) = 0").errorsAre(0, 0, 0);
        new Script(10, "1 and 8 elements").rule(0, "a").rule(5, "12345678").calls("undefine(0) = 1; undefine(0) = 0; undefine(5) = 8; undefine(5) = 0; undo() = 3; undefine(5) = 0; undo() = 3; undo() = 2; undefine(5) = 8; undefine(0) = 0");
        new Script(10, "invalid rules").rule(0, "a").rule(5, "b").calls("undefine(-1) = INVALID; undefine(6) = INVALID; undefine(0) = 1; undefine(5) = 1").errorsAre(2, 0, 0);
        new Script(10, "the stop byte stays").calls("setStop(0, 'a') = NONE; undefine(0) = 0; setStop(0, NONE) = 'a'; undefine(0) = 0; setStop(0, 'b') = NONE");
    }

    /** "value: 32 to 126, or NONE", "the previous stop byte, or NONE" */
    private static void settingStops() {
        new Script(11, "the least, the greatest, none").calls("setStop(0, NONE) = NONE; setStop(0, 32) = NONE; setStop(0, 126) = 32; setStop(0, NONE) = 126; setStop(5, 126) = NONE; setStop(5, 32) = 126; setStop(5, NONE) = 32").errorsAre(0, 0, 0);
        new Script(11, "invalid values").calls("setStop(0, 'a') = NONE; setStop(0, 31) = INVALID; setStop(0, 127) = INVALID; setStop(0, -2) = INVALID; setStop(0, 0) = INVALID; setStop(0, MIN) = INVALID; setStop(0, MAX) = INVALID; setStop(0, 'a') = 'a'; undo() = 1; undo() = 0").errorsAre(6, 0, 0);
        new Script(11, "invalid rules").calls("setStop(-1, 'a') = INVALID; setStop(6, 'a') = INVALID; setStop(-1, NONE) = INVALID; setStop(6, NONE) = INVALID; setStop(0, NONE) = NONE; setStop(5, NONE) = NONE").errorsAre(4, 0, 0);
    }

    /** "index: 0 or more", "NONE if index is not below the number of elements" */
    private static void elements() {
        new Script(12, "undefined").calls("element(0, 0) = NONE; element(5, 7) = NONE; element(5, 8) = NONE; element(0, MAX) = NONE").errorsAre(0, 0, 0).calls("element(0, -1) = INVALID; element(5, MIN) = INVALID").errorsAre(2, 0, 0);
        new Script(12, "1 element").rule(5, "a").calls("element(5, 0) = 'a'; element(5, 1) = NONE; element(5, -1) = INVALID; element(4, 0) = NONE; element(4, 8) = NONE").errorsAre(1, 0, 0);
        new Script(12, "8 elements").rule(0, "12345678").rule(1, "abcdefgh").calls("element(0, 0) = '1'; element(0, 7) = '8'; element(0, 8) = NONE; element(0, 9) = NONE; element(0, MAX) = NONE; element(1, 0) = 'a'; element(1, 7) = 'h'; element(1, -1) = INVALID; element(1, -8) = INVALID").errorsAre(2, 0, 0);
        new Script(12, "gone elements").rule(0, "12345678").calls("undefine(0) = 8; element(0, 0) = NONE; element(0, 7) = NONE").rule(0, "x").calls("element(0, 0) = 'x'; element(0, 1) = NONE; element(0, 7) = NONE");
    }

    // ---- Promises 13 to 26

    /** "position: 0 to the length of the text", "NONE if the rule does not match at the position" */
    private static void matchEnds() {
        new Script(13, "an empty text").rule(0, "a").calls("matchEnd(0, 0) = NONE; matchEnd(5, 0) = NONE; matchEnd(0, 1) = INVALID; matchEnd(0, -1) = INVALID; matchEnd(5, 1) = INVALID").errorsAre(3, 0, 0);
        new Script(13, "one byte").rule(0, "a").text("a").calls("matchEnd(0, 0) = 1; matchEnd(0, 1) = NONE; matchEnd(0, 2) = INVALID; matchEnd(0, -1) = INVALID; matchEnd(1, 0) = NONE").errorsAre(2, 0, 0);
        new Script(13, "a full text").rule(0, "e").rule(5, "a").text(FULL_TEXT).calls("matchEnd(0, 99) = 100; matchEnd(0, 100) = NONE; matchEnd(0, 101) = INVALID; matchEnd(5, 0) = 1; matchEnd(5, -1) = INVALID; matchEnd(5, 100) = NONE; matchEnd(6, 100) = INVALID; matchEnd(-1, 0) = INVALID").errorsAre(4, 0, 0);
        new Script(13, "a text that became shorter").rule(0, "a").text("aaa").calls("delete(1, 2) = 1; matchEnd(0, 0) = 1; matchEnd(0, 1) = NONE; matchEnd(0, 2) = INVALID; delete(0, 1) = 0; matchEnd(0, 0) = NONE; matchEnd(0, 1) = INVALID").errorsAre(2, 0, 0);
        new Script(13, "no stop at the end of the text").rule(0, "ab").text("ca").calls("matchEnd(0, 1) = NONE; insert(2, 'b') = 3; matchEnd(0, 1) = 3");
    }

    private static void counts() {
        new Script(14, "none").calls("nodeCount() = 0").text("a").calls("nodeCount() = 0").rule(0, "a").calls("nodeCount() = 1; delete(0, 1) = 0; nodeCount() = 0").errorsAre(0, 0, 0);
        new Script(14, "100 nodes").rule(0, "a").text("a".repeat(99)).calls("nodeCount() = 99").text("a").calls("nodeCount() = 100");
        new Script(15, "none").calls("islandCount() = 0").text("a").calls("islandCount() = 0").rule(0, "a").calls("islandCount() = 1; delete(0, 1) = 0; islandCount() = 0").errorsAre(0, 0, 0);
        new Script(15, "100 islands and one").rule(0, "a").rule(1, "b~c").text("a".repeat(100)).calls("islandCount() = 100; replace(0, 'b') = 'a'; replace(99, 'c') = 'a'; islandCount() = 1; nodeCount() = 99");
        new Script(26, "none").calls("countOf(0) = 0; countOf(5) = 0").rule(5, "a").calls("countOf(5) = 0").text("a").calls("countOf(5) = 1; countOf(0) = 0; countOf(4) = 0; countOf(6) = INVALID; countOf(-1) = INVALID").errorsAre(2, 0, 0);
        new Script(26, "100 nodes").rule(5, "a").text("a".repeat(100)).calls("countOf(5) = 100; countOf(4) = 0; undefine(5) = 1; countOf(5) = 0");
    }

    /** "INVALID if there is no such node" */
    private static void nodes() {
        for (int index = 0; index < NODE_METHODS.length; index++) {
            String method = NODE_METHODS[index];
            String none = method + "(-1) = INVALID; " + method + "(MIN) = INVALID; " + method + "(MAX) = INVALID; " + method + "(0) = INVALID; " + method + "(1) = INVALID";
            new Script(16 + index, "no node").calls(none).text("a").calls(none).errorsAre(10, 0, 0);
            int answer = method.equals("nodeEnd") ? 1 : method.equals("nodeParent") || method.equals("nodeNumber") ? -1 : 0;
            new Script(16 + index, "one node").rule(0, "a").text("a").calls(method + "(0) = " + answer + "; " + method + "(1) = INVALID; " + method + "(-1) = INVALID").errorsAre(2, 0, 0);
            int last = method.equals("nodeStart") ? 99 : method.equals("nodeEnd") ? 100 : answer;
            Script full = new Script(16 + index, "100 nodes").rule(0, "a").text("a".repeat(100)).calls(method + "(99) = " + last + "; " + method + "(100) = INVALID; " + method + "(101) = INVALID").errorsAre(2, 0, 0);
            full.calls("delete(0, 100) = 0; " + method + "(0) = INVALID; " + method + "(99) = INVALID; undo() = 3; " + method + "(99) = " + last).errorsAre(4, 0, 0);
        }
        new Script(16, "rules 0 and 5").rule(0, "a").rule(5, "b").text("ab").calls("nodeRule(0) = 0; nodeRule(1) = 5");
    }

    /** The last of 100 nodes, nested in the one before it. */
    private static void lastNode() {
        new Script(19, "nested").rule(0, "a").rule(5, "bA").text("a".repeat(98) + "ba").calls("nodeCount() = 100; islandCount() = 99; nodeParent(98) = NONE; nodeParent(99) = 98; nodeParent(0) = NONE");
        new Script(20, "nested").rule(0, "a").rule(5, "bA").text("a".repeat(98) + "ba").calls("nodeDepth(98) = 0; nodeDepth(99) = 1; nodeDepth(0) = 0");
        new Script(21, "nested").rule(0, "a").rule(5, "bA").text("a".repeat(98) + "ba").calls("nodeWater(98) = 0; nodeWater(99) = 0");
        new Script(22, "nested").rule(0, "a").rule(1, "#").rule(5, "bB").text("a".repeat(98) + "b7").calls("nodeNumber(98) = NONE; nodeNumber(99) = 7; nodeRule(99) = 1");
        new Script(21, "all but two bytes").rule(0, "a~b").text("a" + "x".repeat(98) + "b").calls("nodeWater(0) = 98");
        new Script(21, "counted anew behind each change").rule(0, "a~b").text("axb").calls("nodeWater(0) = 1; insert(1, 'y') = 4; nodeWater(0) = 2; delete(1, 2) = 2; nodeWater(0) = 0; undo() = 3; nodeWater(0) = 2; undo() = 2; nodeWater(0) = 1");
        new Script(21, "none").rule(0, "a~b").text("ab").calls("nodeWater(0) = 0");
        new Script(19, "a nested one becomes top-level").rule(0, "(~)").text("(()").calls("nodeParent(0) = NONE; nodeStart(0) = 1").text(")").calls("nodeParent(0) = NONE; nodeParent(1) = 0; nodeDepth(1) = 1; delete(3, 1) = 3; nodeParent(0) = NONE; nodeDepth(0) = 0; nodeParent(1) = INVALID");
    }

    /** "modulo 1000000" */
    private static void numbers() {
        String[] numbers = {"0", "9", "999999", "1000000", "1000001", "1999999", "2000000", "2147483647", "2147483648", "4294967296",
            "9223372036854775807", "9223372036854775808", "18446744073709551616", "0".repeat(100), "9".repeat(100),
            "1" + "0".repeat(99), "0".repeat(93) + "1000000", "0".repeat(94) + "999999"};
        for (String number : numbers) {
            String lowest = number.substring(Math.max(0, number.length() - 6));
            new Script(22, number).rule(0, "#").text(number).calls("nodeNumber(0) = " + Integer.parseInt(lowest));
        }
        new Script(22, "no DIGITS element").rule(0, "@").rule(1, "<A>").text("<a>").calls("nodeNumber(0) = NONE; nodeNumber(1) = NONE; nodeNumber(2) = INVALID").errorsAre(1, 0, 0);
        new Script(22, "DIGITS as the eighth element").rule(0, "(.....~#").text("(.....xx12").calls("nodeNumber(0) = 12");
        new Script(22, "the first of eight").rule(0, "#.#.#.#.").text("0.1.2.3.").calls("nodeNumber(0) = 0; nodeEnd(0) = 8");
    }

    /** "position: 0 to the length of the text minus 1", "NONE if the byte is top-level water" */
    private static void innermost() {
        new Script(23, "an empty text").rule(0, "a").calls("nodeAt(0) = INVALID; nodeAt(-1) = INVALID").errorsAre(2, 0, 0);
        new Script(23, "one byte").text("a").calls("nodeAt(0) = NONE; nodeAt(1) = INVALID; nodeAt(-1) = INVALID").rule(0, "a").calls("nodeAt(0) = 0; nodeAt(1) = INVALID").errorsAre(3, 0, 0);
        new Script(23, "a full text").rule(0, "a").rule(1, "e").text(FULL_TEXT).calls("nodeAt(0) = 0; nodeAt(1) = NONE; nodeAt(98) = NONE; nodeAt(99) = 39; nodeAt(100) = INVALID; nodeAt(-1) = INVALID").errorsAre(2, 0, 0);
        new Script(23, "just before and behind").rule(0, "(~)").text("x()y").calls("nodeAt(0) = NONE; nodeAt(1) = 0; nodeAt(2) = 0; nodeAt(3) = NONE");
    }

    /** "0 if there is no top-level water" */
    private static void topLevelWater() {
        new Script(24, "0 to 100").calls("waterLength() = 0").text("a").calls("waterLength() = 1").text("b".repeat(99)).calls("waterLength() = 100").rule(0, "@").calls("waterLength() = 0").errorsAre(0, 0, 0);
        new Script(24, "water of islands is none").rule(0, "(~)").text("(ab)").calls("waterLength() = 0; insert(0, 'x') = 5; waterLength() = 1; insert(5, 'y') = 6; waterLength() = 2");
        new Script(25, "0 to 100").calls("longestWater() = 0").text("a").calls("longestWater() = 1").text("b".repeat(99)).calls("longestWater() = 100").rule(0, "@").calls("longestWater() = 0").errorsAre(0, 0, 0);
        new Script(25, "at both ends").rule(0, "1").text("x1yy1z").calls("longestWater() = 2; delete(2, 1) = 5; longestWater() = 1; insert(0, 'w') = 6; longestWater() = 2; insert(6, 'v') = 7; longestWater() = 2; insert(7, 'u') = 8; longestWater() = 3");
        new Script(25, "an island of one byte between").rule(0, "1").text("x".repeat(50) + "1" + "x".repeat(49)).calls("longestWater() = 50; waterLength() = 99; replace(50, 'x') = '1'; longestWater() = 100");
        new Script(25, "islands side by side").rule(0, "1").text("x111y").calls("longestWater() = 1; waterLength() = 2");
    }

    // ---- Promises 27 to 29

    /** "the number of states that are left on the stack; REJECTED if the stack is empty" */
    private static void undoing() {
        new Script(27, "an empty stack").calls("undo() = REJECTED; insert(0, 'a') = 1; undo() = 0; undo() = REJECTED; undo() = REJECTED; length() = 0").errorsAre(0, 3, 0);
        for (int changes = 1; changes <= 13; changes++) {
            Script script = new Script(27, changes + " changes").text("abcdefghijklm".substring(0, changes));
            int saved = Math.min(changes, 4);
            for (int left = saved - 1; left >= 0; left--) {
                script.calls("undo() = " + left + "; length() = " + (changes - saved + left));
            }
            script.calls("undo() = REJECTED").textIs("abcdefghijklm".substring(0, changes - saved)).errorsAre(0, 1, 0);
            script.calls("insert(0, 'z') = " + (changes - saved + 1) + "; undo() = 0; undo() = REJECTED").textIs("abcdefghijklm".substring(0, changes - saved));
        }
        new Script(27, "from an empty text to a full one").text(FULL_TEXT).calls("delete(0, 100) = 0; undo() = 3").textIs(FULL_TEXT).calls("insert(0, 'x') = FULL; undo() = 2").textIs(FULL_TEXT.substring(0, 99));
        Script rules = new Script(27, "all rules and stop bytes");
        for (int rule = 0; rule <= 5; rule++) {
            rules.rule(rule, "12345678").calls("setStop(" + rule + ", 'a') = NONE; undefine(" + rule + ") = 8; setStop(" + rule + ", 'b') = 'a'; undo() = 3; undo() = 2; undo() = 1")
                    .calls("element(" + rule + ", 0) = '1'; element(" + rule + ", 7) = '8'; undo() = 0; undo() = REJECTED; element(" + rule + ", 0) = NONE; setStop(" + rule + ", NONE) = NONE; undo() = 0");
        }
        new Script(27, "the nodes, too").rule(0, "a").text("aa").calls("nodeCount() = 2; undo() = 2; nodeCount() = 1; undo() = 1; nodeCount() = 0; undo() = 0; element(0, 0) = NONE");
        new Script(27, "the buffer and the counters stay").calls("append('x') = 1; byteAt(0) = INVALID; insert(0, 'a') = 1; append('y') = 2; byteAt(9) = INVALID; undo() = 0").errorsAre(2, 0, 0).calls("define(0) = 2; element(0, 1) = 'y'; clearPattern() = 2");
    }

    /** "INVALID (which is counted, too) if kind is out of range" */
    private static void errorKinds() {
        Script script = new Script(28, "kinds").errorsAre(0, 0, 0);
        int invalid = 0;
        for (String kind : new String[] {"-1", "3", "4", "-2", "-3", "-4", "MIN", "MAX"}) {
            invalid++;
            script.calls("errorCount(" + kind + ") = INVALID").errorsAre(invalid, 0, 0);
        }
        new Script(28, "each grows alone").calls("undo() = REJECTED").errorsAre(0, 1, 0).calls("byteAt(0) = INVALID").errorsAre(1, 1, 0).rule(0, "12345678").calls("append('9') = FULL").errorsAre(1, 1, 1);
    }

    /** "long arithmetic, overflow wraps" */
    private static void digests() {
        // Reckoned apart from the program, from the list of values in the document.
        Script empty = new Script(29, "a new object");
        empty.due("digest()", empty.grammar().digest(), -7281843009470804979L);
        Script one = new Script(29, "one byte").text("a");
        one.due("digest()", one.grammar().digest(), -4470166658776690018L);
        new Script(29, "a full text without rules").text(FULL_TEXT).digestIs(0, 4, -1, -1, -1, -1, -1, -1);
        new Script(29, "an empty stack, a full buffer").calls("append('1') = 1; append('2') = 2; append('3') = 3; append('4') = 4; append('5') = 5; append('6') = 6; append('7') = 7; append('8') = 8").digestIs(8, 0, -1, -1, -1, -1, -1, -1).calls("append('9') = FULL").digestIs(8, 0, -1, -1, -1, -1, -1, -1);
        Script shorter = new Script(29, "what is gone").rule(5, "12345678").text(FULL_TEXT).calls("undefine(5) = 8; delete(0, 100) = 0; setStop(5, 'x') = NONE; setStop(5, NONE) = 'x'; clearPattern() = 8; undo() = 3; undo() = 2; undo() = 1; undo() = 0; delete(0, 100) = 0; undefine(5) = 8; undo() = 1; undo() = 0");
        shorter.digestIs(0, 0, -1, -1, -1, -1, -1, -1);
    }

    /** Six rules of eight elements, six stop bytes, a full text, a full buffer, a full stack. */
    private static void fullestRules() {
        Script script = new Script(29, "the fullest rules");
        StringBuilder text = new StringBuilder("....");
        for (int rule = 0; rule <= 5; rule++) {
            String pattern = (char) ('a' + rule) + "123456" + (char) ('u' + rule);
            text.append(pattern);
            script.calls("setStop(" + rule + ", " + (rule % 2 == 0 ? 32 + rule : 126 - rule) + ") = NONE").rule(rule, pattern);
        }
        script.text(text + text.substring(4)).calls("nodeCount() = 12; waterLength() = 4; nodeEnd(11) = 100; nodeRule(11) = 5; matchEnd(5, 92) = 100; matchEnd(0, 4) = 12; matchEnd(4, 36) = 44");
        script.calls("insert(0, 'x') = FULL; append('x') = FULL; byteAt(100) = INVALID").digestIs(8, 4, 32, 125, 34, 123, 36, 121).errorsAre(1, 0, 2);
        Script water = new Script(29, "eight elements with water");
        for (int rule = 5; rule >= 0; rule--) {
            // Each rule nests the one above it by WATER and ends with a sign of its own.
            water.rule(rule, (char) ('a' + rule) + "~~~~~~" + (char) ('u' + rule)).calls("setStop(" + rule + ", ';') = NONE");
        }
        water.text("abcdef" + ".".repeat(88) + "zyxwvu").calls("nodeCount() = 6; matchEnd(0, 0) = 100; matchEnd(5, 5) = 95; nodeDepth(5) = 5; nodeWater(5) = 88; nodeWater(0) = 0; nodeEnd(1) = 99");
        water.digestIs(8, 4, ';', ';', ';', ';', ';', ';').calls("replace(50, ';') = '.'; nodeCount() = 0; waterLength() = 100; longestWater() = 100");
    }

    /** The values are told one by one, as asking for them would take more than 512 calls. */
    private static void fullestParse() {
        List<Integer> values = new ArrayList<>(List.of(0, 0, 0, 1, 4, 100));
        values.addAll(Collections.nCopies(100, (int) 'a'));
        values.addAll(List.of(0, -1, 0, -1, 0, -1, 0, -1, 0, -1, 1, (int) 'a', -1, 100));
        for (int node = 0; node < 100; node++) {
            values.addAll(List.of(5, node, node + 1, -1, 0, -1));
        }
        values.addAll(List.of(0, 0));
        Script script = new Script(29, "100 nodes").rule(5, "a").text("a".repeat(100));
        script.due("digest()", script.grammar().digest(), Script.hashOf(values));
    }
}
