/** Promises 14 to 26: the parse, its nodes and the top-level water. */
public final class NodesTest {
    private static final String[] NODE_METHODS = {
        "nodeRule", "nodeStart", "nodeEnd", "nodeParent", "nodeDepth", "nodeWater", "nodeNumber"};

    public static void main(String[] args) {
        counts();
        topLevel();
        nested();
        onlyWhatMatched();
        waters();
        numbers();
        innermost();
        topLevelWater();
        countsOfRules();
        invalidNodes();
        largest();
        documentExamples();
        Script.finish();
    }

    private static void counts() {
        new Script(14, "no text").rule(0, "a").calls("nodeCount() = 0; islandCount() = 0");
        new Script(14, "no rule").text("abc").calls("nodeCount() = 0; islandCount() = 0");
        new Script(14, "nested ones, too").rule(0, "(~)").text("(()())()").calls("nodeCount() = 4; islandCount() = 2").errorsAre(0, 0, 0);
        new Script(15, "top-level ones only").rule(0, "(~)").text("((()))").calls("islandCount() = 1; nodeCount() = 3; insert(6, '(') = 7; islandCount() = 1; insert(7, ')') = 8; islandCount() = 2; delete(0, 1) = 7; islandCount() = 2; nodeCount() = 3");
    }

    private static void topLevel() {
        Script lowest = new Script(16, "the lowest rule").rule(3, "ab").rule(1, "a").rule(4, "b").text("abb");
        lowest.calls("nodeCount() = 3").each("nodeRule", 1, 4, 4, -2).each("nodeStart", 0, 1, 2).each("nodeEnd", 1, 2, 3).each("nodeParent", -1, -1, -1).each("nodeDepth", 0, 0, 0);
        lowest.calls("undefine(1) = 1; nodeCount() = 2").each("nodeRule", 3, 4).each("nodeStart", 0, 2).each("nodeEnd", 2, 3);
        new Script(16, "the lowest rule, though it is longer").rule(5, "[~]").rule(2, "ab").rule(4, "a").text("ab[ab]").calls("nodeCount() = 3").each("nodeRule", 2, 5, 2).each("nodeEnd", 2, 6, 5).each("nodeParent", -1, -1, 1).each("nodeWater", 0, 0, 0)
                .calls("undefine(2) = 2; nodeCount() = 3").each("nodeRule", 4, 5, 4).each("nodeEnd", 1, 6, 4).each("nodeWater", 0, 1, 0);
        new Script(17, "after water").rule(0, "#").text("ab12cd3").calls("nodeCount() = 2").each("nodeStart", 2, 6).each("nodeEnd", 4, 7).each("nodeRule", 0, 0);
        new Script(18, "parsing goes on at the end").rule(0, "aa").text("aaaaa").calls("nodeCount() = 2").each("nodeStart", 0, 2).each("nodeEnd", 2, 4).calls("waterLength() = 1");
        new Script(16, "all rules").rule(0, "a").rule(1, "b").rule(2, "c").rule(3, "d").rule(4, "e").rule(5, "f").text("fedcba").each("nodeRule", 5, 4, 3, 2, 1, 0);
    }

    private static void nested() {
        Script script = new Script(19, "references and water").rule(0, "a#").rule(1, "b~c").rule(2, "<AB>").text("<a12bxa3c>a007b");
        script.calls("nodeCount() = 5; islandCount() = 2").each("nodeRule", 2, 0, 1, 0, 0).each("nodeStart", 0, 1, 4, 6, 10).each("nodeEnd", 10, 4, 9, 8, 14)
                .each("nodeParent", -1, 0, 0, 2, -1).each("nodeDepth", 0, 1, 1, 2, 0).each("nodeWater", 0, 0, 1, 0, 0).each("nodeNumber", -1, 12, -1, 3, 7).errorsAre(0, 0, 0);
        new Script(20, "deep nesting").rule(0, "(~)").text("x(((y)))(z)").each("nodeDepth", 0, 1, 2, 0).each("nodeParent", -1, 0, 1, -1).each("nodeStart", 1, 2, 3, 8).each("nodeEnd", 8, 7, 6, 11);
        new Script(19, "siblings behind a deep one").rule(0, "(~)").text("((())()(()))").each("nodeParent", -1, 0, 1, 0, 0, 4).each("nodeDepth", 0, 1, 2, 1, 1, 2).each("nodeStart", 0, 1, 2, 5, 7, 8);
        new Script(19, "the same rule twice by reference").rule(0, "#").rule(1, "[A,A]").text("[1,23]").each("nodeRule", 1, 0, 0).each("nodeParent", -1, 0, 0).each("nodeStart", 0, 1, 3).each("nodeEnd", 6, 2, 5);
        new Script(19, "a reference behind water").rule(0, "#").rule(1, "[~A]").text("[1 2]").each("nodeRule", 1, 0, 0).each("nodeParent", -1, 0, 0).each("nodeWater", 1, 0, 0);
        new Script(16, "in water the lowest rule").rule(5, "[~]").rule(4, "ab").rule(2, "a").text("[ab]").calls("nodeCount() = 2").each("nodeRule", 5, 2).each("nodeEnd", 4, 2).each("nodeWater", 1, 0);
        new Script(16, "by reference the named rule").rule(5, "[E]").rule(4, "ab").rule(2, "a").text("[ab]").calls("nodeCount() = 2").each("nodeRule", 5, 4).each("nodeEnd", 4, 3);
    }

    /** Islands that only a failed try has met are no nodes. */
    private static void onlyWhatMatched() {
        new Script(14, "a rule that fails in the end").rule(0, "[B;").rule(1, "#").text("[12]").calls("nodeCount() = 1; nodeRule(0) = 1; nodeStart(0) = 1; nodeParent(0) = NONE; nodeDepth(0) = 0");
        new Script(14, "a rest that fails").rule(0, "[~B;").rule(1, "#").text("[1,2;").calls("nodeCount() = 3").each("nodeRule", 0, 1, 1).each("nodeStart", 0, 1, 3).each("nodeParent", -1, 0, 0).each("nodeWater", 1, 0, 0);
        new Script(14, "a rest that fails inside of an island").rule(0, "[~B]").rule(1, "#").rule(2, "1a#").text("[1a2]").calls("nodeCount() = 3").each("nodeRule", 0, 1, 1).each("nodeStart", 0, 1, 3);
        new Script(14, "a rest that comes to the end").rule(0, "x~b~c").rule(1, "b(").rule(2, "(~)").text("xb(bc)").calls("nodeCount() = 2").each("nodeRule", 0, 1).each("nodeStart", 0, 1).each("nodeEnd", 5, 3).each("nodeParent", -1, 0).each("nodeWater", 0, 0).calls("waterLength() = 1");
        new Script(14, "a rest inside of digits").rule(0, "[~1").rule(1, "#").text("[2,145").calls("nodeCount() = 3; islandCount() = 2").each("nodeRule", 0, 1, 1).each("nodeStart", 0, 1, 4).each("nodeEnd", 4, 2, 6);
    }

    private static void waters() {
        new Script(21, "bytes of nested islands are not counted").rule(0, "(~)").text("(a(bc)d(e))").each("nodeWater", 2, 2, 1);
        new Script(21, "all waters of a pattern").rule(0, "a~b~c~d").text("a1b22c333d").each("nodeWater", 6);
        new Script(21, "no water").rule(0, "ab").rule(1, "c~").text("abcx").each("nodeWater", 0, 0);
        new Script(21, "water of a referenced island").rule(0, "<~>").rule(1, "[A~]").text("[<xy>z]").each("nodeWater", 1, 2);
        new Script(21, "matched digits and letters are no water").rule(0, "a#~@;").text("a12..xy;").each("nodeWater", 2);
    }

    private static void numbers() {
        new Script(22, "no digits element").rule(0, "12").rule(1, "a").text("12a").each("nodeNumber", -1, -1);
        new Script(22, "zero").rule(0, "#").text("0 00 007").each("nodeNumber", 0, 0, 7);
        new Script(22, "the first digits element").rule(0, "#.#").text("12.34").each("nodeNumber", 12, -2);
        new Script(22, "the first is zero").rule(0, "#.#").text("0.34").each("nodeNumber", 0);
        new Script(22, "behind other elements").rule(0, "@~#;#").text("ab.5;6").each("nodeNumber", 5);
        new Script(22, "digits of a reference are not its own").rule(0, "#").rule(1, "<A>").rule(2, "[A,#]").text("<5>[6,7]").each("nodeNumber", -1, 5, 7, 6);
        new Script(22, "modulo 1000000").rule(0, "#").text("999999 1000000 1234567 99999999999999999999").each("nodeNumber", 999999, 0, 234567, 999999);
        new Script(22, "one hundred digits").rule(0, "#").text("9".repeat(94) + "012345").each("nodeNumber", 12345);
        new Script(22, "a part of a run").rule(0, "1#").text("1234").each("nodeNumber", 234);
    }

    private static void innermost() {
        new Script(23, "innermost nodes").rule(0, "(~)").text("a(b(c)d)e")
                .calls("nodeAt(0) = NONE; nodeAt(1) = 0; nodeAt(2) = 0; nodeAt(3) = 1; nodeAt(4) = 1; nodeAt(5) = 1; nodeAt(6) = 0; nodeAt(7) = 0; nodeAt(8) = NONE").errorsAre(0, 0, 0);
        new Script(23, "neighbours").rule(0, "ab").text("ababx").calls("nodeAt(0) = 0; nodeAt(1) = 0; nodeAt(2) = 1; nodeAt(3) = 1; nodeAt(4) = NONE");
        new Script(23, "behind nested ones").rule(0, "(~)").text("(()())").calls("nodeAt(0) = 0; nodeAt(1) = 1; nodeAt(2) = 1; nodeAt(3) = 2; nodeAt(4) = 2; nodeAt(5) = 0");
        new Script(23, "invalid positions").calls("nodeAt(0) = INVALID").text("ab").calls("nodeAt(2) = INVALID; nodeAt(-1) = INVALID; nodeAt(MAX) = INVALID; nodeAt(MIN) = INVALID").errorsAre(5, 0, 0);
    }

    private static void topLevelWater() {
        new Script(24, "bytes outside of islands").rule(0, "(~)").text("ab(cd)e(f)ghi").calls("waterLength() = 6; longestWater() = 3").errorsAre(0, 0, 0);
        new Script(24, "no rule").text("abc").calls("waterLength() = 3; longestWater() = 3");
        new Script(24, "no water").rule(0, "@").text("abc").calls("waterLength() = 0; longestWater() = 0");
        new Script(24, "no text").calls("waterLength() = 0; longestWater() = 0");
        new Script(25, "the longest is first").rule(0, "#").text("abcd1ef").calls("longestWater() = 4; waterLength() = 6");
        new Script(25, "the longest is last").rule(0, "#").text("a1bc1def").calls("longestWater() = 3; waterLength() = 6");
        new Script(25, "an island parts two").rule(0, "#").text("ab1cd").calls("longestWater() = 2; undefine(0) = 1; longestWater() = 5; waterLength() = 5; undo() = 3; longestWater() = 2");
        new Script(25, "all").text("x".repeat(100)).calls("longestWater() = 100; waterLength() = 100");
    }

    private static void countsOfRules() {
        new Script(26, "nested ones, too").rule(0, "(~)").rule(5, "#").text("(1(2))3x").calls("countOf(0) = 2; countOf(5) = 3; countOf(1) = 0; countOf(4) = 0").errorsAre(0, 0, 0);
        new Script(26, "invalid rules").calls("countOf(6) = INVALID; countOf(-1) = INVALID; countOf(MAX) = INVALID; countOf(MIN) = INVALID").errorsAre(4, 0, 0);
    }

    private static void invalidNodes() {
        for (int index = 0; index < NODE_METHODS.length; index++) {
            String method = NODE_METHODS[index];
            Script script = new Script(16 + index, "no such node").calls(method + "(0) = INVALID").rule(0, "#a").text("1a22a").calls("nodeCount() = 2");
            script.calls(method + "(2) = INVALID; " + method + "(-1) = INVALID; " + method + "(100) = INVALID; " + method + "(MAX) = INVALID; " + method + "(MIN) = INVALID").errorsAre(6, 0, 0);
            script.calls("delete(4, 1) = 4; " + method + "(1) = INVALID").errorsAre(7, 0, 0);
        }
        new Script(16, "a good node counts no error").rule(0, "#").text("1").each("nodeRule", 0).each("nodeStart", 0).each("nodeEnd", 1).each("nodeParent", -1).each("nodeDepth", 0).each("nodeWater", 0).each("nodeNumber", 1).errorsAre(0, 0, 0);
    }

    private static void largest() {
        Script flat = new Script(14, "one hundred nodes").rule(0, "a").text("a".repeat(100)).calls("nodeCount() = 100; islandCount() = 100; countOf(0) = 100; nodeStart(99) = 99; nodeEnd(99) = 100; nodeRule(100) = INVALID; waterLength() = 0");
        flat.calls("nodeAt(99) = 99; nodeAt(0) = 0");
        new Script(20, "fifty levels").rule(0, "(~)").text("(".repeat(50) + ")".repeat(50)).calls("nodeCount() = 50; nodeDepth(49) = 49; nodeParent(49) = 48; nodeEnd(49) = 51; nodeEnd(0) = 100; nodeAt(50) = 49; nodeAt(99) = 0");
        deepest();
    }

    /** A chain of references costs one byte a level, and the water at its end one byte for all. */
    private static void deepest() {
        Script script = new Script(20, "eighty-four levels").rule(0, "aB").rule(1, "aC").rule(2, "aD").rule(3, "aE").rule(4, "aF").rule(5, "a~b");
        script.text("a".repeat(84) + "b".repeat(14)).calls("nodeCount() = 84; islandCount() = 1; nodeDepth(83) = 83; nodeRule(83) = 5; nodeEnd(83) = 85; nodeEnd(0) = 98; nodeRule(6) = 0; nodeParent(6) = 5; nodeRule(5) = 5");
    }

    private static void documentExamples() {
        new Script(21, "example 1").calls("clearPattern() = 0; append(40) = 1; append(126) = 2; append(41) = 3; define(0) = 3; insert(0, 97) = 1; insert(1, 40) = 2; insert(2, 98) = 3; insert(3, 41) = 4; nodeCount() = 1; nodeStart(0) = 1; nodeEnd(0) = 4; matchEnd(0, 1) = 4; nodeWater(0) = 1");
        new Script(22, "example 2").calls("clearPattern() = 0; append(97) = 1; append(35) = 2; define(0) = 2; insert(0, 97) = 1; insert(1, 49) = 2; insert(2, 50) = 3; insert(3, 97) = 4; insert(4, 55) = 5; nodeCount() = 2; nodeNumber(0) = 12; nodeNumber(1) = 7; islandCount() = 2");
        new Script(24, "example 3").calls("clearPattern() = 0; append(120) = 1; append(126) = 2; append(121) = 3; define(0) = 3; insert(0, 120) = 1; insert(1, 59) = 2; insert(2, 121) = 3; matchEnd(0, 0) = 3; setStop(0, 59) = -1; matchEnd(0, 0) = -1; nodeCount() = 0; waterLength() = 3; longestWater() = 3");
        new Script(28, "example 4").calls("append(126) = 1; define(0) = -3; errorCount(1) = 1; byteAt(0) = -2; errorCount(0) = 1");
    }
}
