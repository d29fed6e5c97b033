/** Promise 13: matching, as the Terms of the document say it. */
public final class MatchTest {
    public static void main(String[] args) {
        literals();
        digitsAndLetters();
        references();
        water();
        waterTakesIslands();
        stopBytes();
        severalWaters();
        invalidArguments();
        changes();
        largest();
        Script.finish();
    }

    private static Script script(String title) {
        return new Script(13, title);
    }

    private static void literals() {
        script("literals").rule(0, "ab").text("ababb").calls("matchEnd(0, 0) = 2; matchEnd(0, 1) = NONE; matchEnd(0, 2) = 4; matchEnd(0, 3) = NONE; matchEnd(0, 4) = NONE; matchEnd(0, 5) = NONE").errorsAre(0, 0, 0);
        script("bytes beside the special ones").rule(0, "G\"$?}").text("G\"$?}").calls("matchEnd(0, 0) = 5");
        script("an undefined rule").text("a").calls("matchEnd(0, 0) = NONE; matchEnd(5, 1) = NONE").errorsAre(0, 0, 0);
        script("a pattern beyond the text").rule(0, "abc").text("ab").calls("matchEnd(0, 0) = NONE");
        script("bytes that were deleted").rule(0, "abc").text("abc").calls("matchEnd(0, 0) = 3; delete(2, 1) = 2; matchEnd(0, 0) = NONE");
    }

    private static void digitsAndLetters() {
        script("digits").rule(0, "#").text("x09a/:").calls("matchEnd(0, 0) = NONE; matchEnd(0, 1) = 3; matchEnd(0, 2) = 3; matchEnd(0, 3) = NONE; matchEnd(0, 4) = NONE; matchEnd(0, 5) = NONE; matchEnd(0, 6) = NONE");
        script("letters").rule(0, "@").text("az1AZ`{").calls("matchEnd(0, 0) = 2; matchEnd(0, 1) = 2; matchEnd(0, 2) = NONE; matchEnd(0, 3) = NONE; matchEnd(0, 4) = NONE; matchEnd(0, 5) = NONE; matchEnd(0, 6) = NONE");
        script("digits are not shortened").rule(0, "#1").rule(1, "##").rule(2, "@a").rule(3, "@#@").text("11aaa1b").calls("matchEnd(0, 0) = NONE; matchEnd(1, 0) = NONE; matchEnd(2, 2) = NONE; matchEnd(3, 2) = 7; matchEnd(3, 4) = 7");
        script("runs up to the end").rule(0, "#@").text("12ab").calls("matchEnd(0, 0) = 4; matchEnd(0, 1) = 4; matchEnd(0, 2) = NONE; replace(3, '1') = 'b'; matchEnd(0, 0) = 3");
        script("the signs themselves").rule(0, "#").rule(1, "@").text("#@").calls("matchEnd(0, 0) = NONE; matchEnd(1, 1) = NONE; matchEnd(1, 0) = NONE");
    }

    private static void references() {
        script("a reference").rule(0, "#").rule(1, "<A>").text("<12>").calls("matchEnd(1, 0) = 4; undefine(0) = 1; matchEnd(1, 0) = NONE");
        script("all rules").rule(0, "a").rule(1, "b").rule(2, "c").rule(3, "d").rule(4, "e").rule(5, ".ABCDE").text(".abcde").calls("matchEnd(5, 0) = 6; undefine(4) = 1; matchEnd(5, 0) = NONE");
        script("rule F").rule(5, "x").rule(0, "<F>").text("<x>").calls("matchEnd(0, 0) = 3");
        script("to itself").rule(0, "aA").text("aaaa").calls("matchEnd(0, 0) = NONE; matchEnd(0, 3) = NONE");
        script("in a circle").rule(0, "aB").rule(1, "bA").text("ababab").calls("matchEnd(0, 0) = NONE; matchEnd(1, 1) = NONE");
        script("no lower rule instead").rule(0, "ab").rule(1, "a").rule(2, "<Bb>").text("<ab>").calls("matchEnd(2, 0) = 4; matchEnd(0, 1) = 3; matchEnd(1, 1) = 2");
        script("covers the whole island").rule(0, "(~)").rule(1, "xA;").text("x(a(b)c);").calls("matchEnd(1, 0) = 9; matchEnd(0, 1) = 8; matchEnd(0, 3) = 6");
        script("the end of the text").rule(0, "a").rule(1, "bA").text("b").calls("matchEnd(1, 0) = NONE");
    }

    private static void water() {
        script("no water").rule(0, "a~b").text("ab").calls("matchEnd(0, 0) = 2");
        script("some water").rule(0, "a~b").text("axxbb").calls("matchEnd(0, 0) = 4");
        script("no end").rule(0, "a~b").text("axxx").calls("matchEnd(0, 0) = NONE");
        script("an empty rest").rule(0, "a~").text("abc").calls("matchEnd(0, 0) = 1");
        script("an empty rest at the end").rule(0, "a~").text("a").calls("matchEnd(0, 0) = 1");
        script("two waters at the end").rule(0, "a~~").text("ab").calls("matchEnd(0, 0) = 1");
        script("the whole rest").rule(0, "a~bc").text("axbxbc").calls("matchEnd(0, 0) = 6");
        script("before digits").rule(0, "a~#b").text("a1x22b").calls("matchEnd(0, 0) = 6");
        script("before the middle of digits").rule(0, "a~#").text("ax12").calls("matchEnd(0, 0) = 4");
        script("before a reference").rule(0, "a~B").rule(1, "b#").text("abb7").calls("matchEnd(0, 0) = 4");
        script("its own sign in the text").rule(0, "a~b").text("a~b").calls("matchEnd(0, 0) = 3");
    }

    private static void waterTakesIslands() {
        script("an island hides the end").rule(0, "(~)").text("((x)").calls("matchEnd(0, 0) = NONE; matchEnd(0, 1) = 4");
        script("of another rule").rule(0, "a~c").rule(1, "bc").text("abcxc").calls("matchEnd(0, 0) = 5; undefine(1) = 2; matchEnd(0, 0) = 3");
        script("the lowest rule").rule(5, "a~d").rule(1, "bc").rule(2, "bcd").text("abcdd").calls("matchEnd(5, 0) = 4; undefine(1) = 2; matchEnd(5, 0) = 5");
        script("the lowest rule, though it is longer").rule(5, "a~d").rule(1, "bcd").rule(2, "bc").text("abcdd").calls("matchEnd(5, 0) = 5; undefine(1) = 3; matchEnd(5, 0) = 4");
        script("not taken back").rule(0, "a~c").rule(1, "bc").text("abc").calls("matchEnd(0, 0) = NONE");
        script("the rest is tried first").rule(0, "a~b").rule(1, "bb").text("abb").calls("matchEnd(0, 0) = 2");
        script("the rest after an island").rule(0, "a~b").rule(1, "xb").text("axbb").calls("matchEnd(0, 0) = 4");
        script("an island in the middle of digits").rule(0, "a~;").rule(1, "#;").text("a12;;").calls("matchEnd(0, 0) = 5");
        script("a higher rule that goes wrong").rule(0, "a~c").rule(1, "b~d").text("abcd").calls("matchEnd(1, 1) = 4; matchEnd(0, 0) = NONE; setStop(1, 'c') = NONE; matchEnd(0, 0) = 3");
    }

    private static void stopBytes() {
        script("a stop byte").rule(0, "a~b").text("a;b").calls("matchEnd(0, 0) = 3; setStop(0, ';') = NONE; matchEnd(0, 0) = NONE; setStop(0, NONE) = ';'; matchEnd(0, 0) = 3");
        script("of another rule").rule(0, "a~b").text("a;b").calls("setStop(1, ';') = NONE; matchEnd(0, 0) = 3");
        for (int rule = 0; rule <= 5; rule++) {
            Script others = script("of all rules but rule " + rule).rule(rule, "a~b").text("a;b");
            for (int other = 0; other <= 5; other++) {
                others.calls(other == rule ? "" : "setStop(" + other + ", ';') = NONE");
            }
            others.calls("matchEnd(" + rule + ", 0) = 3; setStop(" + rule + ", ';') = NONE; matchEnd(" + rule + ", 0) = NONE");
        }
        script("in a nested island").rule(0, "a~b").rule(1, "<~>").text("a<;>b").calls("setStop(0, ';') = NONE; matchEnd(0, 0) = 5; undefine(1) = 3; matchEnd(0, 0) = NONE");
        script("at the start of a nested island").rule(0, "a~b").rule(1, ";x").text("a;xb").calls("setStop(0, ';') = NONE; matchEnd(0, 0) = 4; undefine(1) = 2; matchEnd(0, 0) = NONE");
        script("of the nested rule").rule(0, "a~b").rule(1, "<~>").text("a<;>b").calls("setStop(1, ';') = NONE; matchEnd(1, 1) = NONE; matchEnd(0, 0) = 5");
        script("that begins the rest").rule(0, "a~;").text("ax;").calls("setStop(0, ';') = NONE; matchEnd(0, 0) = 3");
        script("outside of the water").rule(0, "a;~b").text("a;xb").calls("setStop(0, ';') = NONE; matchEnd(0, 0) = 4");
        script("in both waters").rule(0, "a~b~c").text("axb;c").calls("matchEnd(0, 0) = 5; setStop(0, ';') = NONE; matchEnd(0, 0) = NONE");
        script("a stop byte that is a blank or a tilde").rule(0, "a~b").text("a ~b").calls("setStop(0, 32) = NONE; matchEnd(0, 0) = NONE; setStop(0, 126) = 32; matchEnd(0, 0) = NONE; setStop(0, 'x') = 126; matchEnd(0, 0) = 4");
    }

    private static void severalWaters() {
        script("two waters").rule(0, "a~b~c").text("axbybc").calls("matchEnd(0, 0) = 6");
        script("waters side by side").rule(0, "a~~c").text("axyc").calls("matchEnd(0, 0) = 4; setStop(0, 'y') = NONE; matchEnd(0, 0) = NONE");
        script("the whole rest behind the first").rule(0, "a~b~c").rule(1, "yc").text("abycb;c").calls("matchEnd(0, 0) = 7; setStop(0, ';') = NONE; matchEnd(0, 0) = NONE");
        // A try of the rest may come to a stop byte or to the end: then the rest doesn't match, and the first water goes on.
        script("a rest that comes to a stop byte").rule(0, "x~b~c").rule(1, "b;").text("xb;bc").calls("setStop(0, ';') = NONE; matchEnd(0, 0) = 5; undefine(1) = 2; matchEnd(0, 0) = NONE");
        script("a rest that comes to the end").rule(0, "x~b~c").rule(1, "b(").rule(2, "(~)").text("xb(bc)").calls("matchEnd(0, 0) = 5; undefine(1) = 2; matchEnd(0, 0) = NONE; undefine(2) = 3; matchEnd(0, 0) = 5");
        script("eight elements").rule(0, "a~b~c~d~").text("a.b.c.d.").calls("matchEnd(0, 0) = 7");
    }

    private static void invalidArguments() {
        script("positions and rules").rule(0, "a").text("aa").calls("matchEnd(0, 3) = INVALID; matchEnd(0, -1) = INVALID; matchEnd(0, MAX) = INVALID; matchEnd(0, MIN) = INVALID")
                .calls("matchEnd(-1, 0) = INVALID; matchEnd(6, 0) = INVALID; matchEnd(MAX, 0) = INVALID; matchEnd(MIN, MIN) = INVALID").errorsAre(8, 0, 0)
                .calls("matchEnd(0, 2) = NONE; matchEnd(5, 0) = NONE").errorsAre(8, 0, 0);
    }

    private static void changes() {
        script("after every change").rule(0, "ab").text("ab")
                .calls("matchEnd(0, 0) = 2; insert(0, 'x') = 3; matchEnd(0, 0) = NONE; matchEnd(0, 1) = 3; replace(2, 'c') = 'b'; matchEnd(0, 1) = NONE; undo() = 3; matchEnd(0, 1) = 3")
                .calls("delete(0, 1) = 2; matchEnd(0, 0) = 2; undefine(0) = 2; matchEnd(0, 0) = NONE; undo() = 3; matchEnd(0, 0) = 2; append('c') = 3; matchEnd(0, 0) = 2; define(0) = 3; matchEnd(0, 0) = NONE");
    }

    private static void largest() {
        Script nested = script("parentheses in a full text").rule(0, "(~)");
        nested.text("(".repeat(50) + ")".repeat(50)).calls("matchEnd(0, 0) = 100; matchEnd(0, 49) = 51; matchEnd(0, 50) = NONE; matchEnd(0, 100) = NONE");
        script("one run").rule(0, "@").text("z".repeat(100)).calls("matchEnd(0, 0) = 100; matchEnd(0, 99) = 100");
        script("water up to the end").rule(0, "a~b").text("a" + "x".repeat(98) + "b").calls("matchEnd(0, 0) = 100; replace(99, 'x') = 'b'; matchEnd(0, 0) = NONE");
    }
}
