import java.util.Random;

/**
 * Promises 1 to 29: many runs of 512 calls, each answer beside the answer of Model. The calls are
 * drawn from fixed seeds, so that a wrong answer comes again.
 */
public final class ModelTest {
    private static final int RUNS = 1500;
    private static final int CALLS = 512;
    private static final String[] CHANGES = {
        "insert", "insert", "insert", "replace", "delete", "setStop", "undefine", "undo"};
    private static final String[] QUESTIONS = {
        "length", "byteAt", "element", "matchEnd", "nodeCount", "islandCount", "nodeRule",
        "nodeStart", "nodeEnd", "nodeParent", "nodeDepth", "nodeWater", "nodeNumber", "nodeAt",
        "waterLength", "longestWater", "countOf", "errorCount", "digest"};
    private static final String[] TEXTS = {"ab", "()a1", "abc12;", "<>()ab10;.", "a1", " az09~#@AF"};
    private static final int[] ODD = {
        -3, -2, -1, 0, 1, 5, 6, 7, 31, 32, 99, 100, 101, 126, 127, 128,
        Integer.MAX_VALUE, Integer.MIN_VALUE};

    private final int run;
    private final Random random;
    private final String text;
    private final IslandGrammar grammar = new IslandGrammar();
    private final Model model = new Model();
    private int calls = 0;
    private int wrong = 0;
    private int nodesSeen = 0;

    private ModelTest(int run) {
        this.run = run;
        random = new Random(run);
        text = TEXTS[run % TEXTS.length];
    }

    public static void main(String[] args) {
        int wrong = 0;
        long nodes = 0;
        for (int run = 0; run < RUNS && wrong < 20; run++) {
            ModelTest test = new ModelTest(run);
            test.play();
            wrong += test.wrong;
            nodes += test.nodesSeen;
        }
        System.out.println(RUNS + " runs, " + nodes + " nodes met, " + wrong + " wrong answers");
        if (wrong != 0 || nodes < RUNS) {
            System.exit(1);
        }
    }

    private void play() {
        int questions = 20 + random.nextInt(70);
        while (calls < CALLS && wrong == 0) {
            if (random.nextInt(25) == 0) {
                defineRule();
            } else if (random.nextInt(100) < questions) {
                ask();
            } else {
                change();
            }
        }
    }

    private void defineRule() {
        if (random.nextInt(8) != 0) {
            call("clearPattern", 0, 0);
        }
        int size = 1 + random.nextInt(random.nextInt(4) == 0 ? 9 : 4);
        for (int index = 0; index < size; index++) {
            call("append", patternByte(index), 0);
        }
        call("define", rule(), 0);
    }

    private int patternByte(int index) {
        int choice = random.nextInt(index == 0 ? 11 : 20);
        if (choice == 10) {
            return oddOr(32 + random.nextInt(95));
        }
        if (choice < 10) {
            return choice < 8 ? text.charAt(random.nextInt(text.length())) : choice == 8 ? '#' : '@';
        }
        return choice < 15 ? '~' : 'A' + random.nextInt(6);
    }

    private void change() {
        String method = CHANGES[random.nextInt(CHANGES.length)];
        int length = length();
        switch (method) {
            case "insert":
                call(method, oddOr(random.nextBoolean() ? length : random.nextInt(length + 1)), textByte());
                break;
            case "replace":
                call(method, position(length), textByte());
                break;
            case "delete":
                call(method, position(length), oddOr(1 + random.nextInt(3)));
                break;
            case "setStop":
                call(method, rule(), random.nextInt(3) == 0 ? -1 : textByte());
                break;
            default:
                // Rules that go and changes that are taken back are rare, so that the state grows.
                if (random.nextInt(3) == 0) {
                    call(method, rule(), 0);
                }
                break;
        }
    }

    private void ask() {
        String method = QUESTIONS[random.nextInt(QUESTIONS.length)];
        // The model is asked, as the object has no more than its 512 calls.
        int nodes = (int) model.answer("nodeCount", 0, 0);
        nodesSeen += nodes;
        switch (method) {
            case "element":
                call(method, rule(), oddOr(random.nextInt(9)));
                break;
            case "matchEnd":
                call(method, rule(), oddOr(random.nextInt(length() + 1)));
                break;
            case "countOf":
                call(method, rule(), 0);
                break;
            case "errorCount":
                call(method, oddOr(random.nextInt(3)), 0);
                break;
            case "byteAt":
            case "nodeAt":
                call(method, position(length()), 0);
                break;
            default:
                call(method, oddOr(random.nextInt(nodes + 1)), 0);
                break;
        }
    }

    private int length() {
        return (int) model.answer("length", 0, 0);
    }

    private int oddOr(int value) {
        return random.nextInt(30) == 0 ? ODD[random.nextInt(ODD.length)] : value;
    }

    private int rule() {
        return oddOr(random.nextInt(6));
    }

    private int position(int length) {
        return oddOr(length == 0 ? 0 : random.nextInt(length));
    }

    private int textByte() {
        return oddOr(text.charAt(random.nextInt(text.length())));
    }

    private void call(String method, int a, int b) {
        if (calls == CALLS) {
            return;
        }
        calls++;
        long due = model.answer(method, a, b);
        long got = answer(method, a, b);
        if (got != due) {
            wrong++;
            System.out.println("run " + run + ", call " + calls + ": " + method + "(" + a + ", " + b
                    + ") answered " + got + ", due is " + due);
        }
    }

    private long answer(String method, int a, int b) {
        switch (method) {
            case "insert": return grammar.insert(a, b);
            case "replace": return grammar.replace(a, b);
            case "delete": return grammar.delete(a, b);
            case "length": return grammar.length();
            case "byteAt": return grammar.byteAt(a);
            case "append": return grammar.append(a);
            case "clearPattern": return grammar.clearPattern();
            case "define": return grammar.define(a);
            case "undefine": return grammar.undefine(a);
            case "setStop": return grammar.setStop(a, b);
            case "element": return grammar.element(a, b);
            case "matchEnd": return grammar.matchEnd(a, b);
            case "nodeCount": return grammar.nodeCount();
            case "islandCount": return grammar.islandCount();
            case "nodeRule": return grammar.nodeRule(a);
            case "nodeStart": return grammar.nodeStart(a);
            case "nodeEnd": return grammar.nodeEnd(a);
            case "nodeParent": return grammar.nodeParent(a);
            case "nodeDepth": return grammar.nodeDepth(a);
            case "nodeWater": return grammar.nodeWater(a);
            case "nodeNumber": return grammar.nodeNumber(a);
            case "nodeAt": return grammar.nodeAt(a);
            case "waterLength": return grammar.waterLength();
            case "longestWater": return grammar.longestWater();
            case "countOf": return grammar.countOf(a);
            case "undo": return grammar.undo();
            case "errorCount": return grammar.errorCount(a);
            case "digest": return grammar.digest();
            default: throw new IllegalStateException(method);
        }
    }
}
