import java.lang.management.ManagementFactory;
import java.lang.reflect.Array;
import java.lang.reflect.Field;
import java.lang.reflect.Method;
import java.lang.reflect.Modifier;
import java.nio.file.Files;
import java.nio.file.Path;
import java.util.ArrayList;
import java.util.HashSet;
import java.util.IdentityHashMap;
import java.util.List;
import java.util.Map;
import java.util.Set;
import java.util.TreeSet;

/** The public face of the document, and the rules of LANGUAGE.md that a program can look at. */
public final class FaceTest {
    private static final String[] FACE = {
        "int insert(int,int)", "int replace(int,int)", "int delete(int,int)", "int length()",
        "int byteAt(int)", "int append(int)", "int clearPattern()", "int define(int)",
        "int undefine(int)", "int setStop(int,int)", "int element(int,int)",
        "int matchEnd(int,int)", "int nodeCount()", "int islandCount()", "int nodeRule(int)",
        "int nodeStart(int)", "int nodeEnd(int)", "int nodeParent(int)", "int nodeDepth(int)",
        "int nodeWater(int)", "int nodeNumber(int)", "int nodeAt(int)", "int waterLength()",
        "int longestWater()", "int countOf(int)", "int undo()", "int errorCount(int)",
        "long digest()"};
    private static final String[] FORBIDDEN = {
        "\\bthrow\\b", "\\bthrows\\b", "\\btry\\b", "\\bcatch\\b", "\\bsynchronized\\b",
        "\\bassert\\b", "\\bpackage\\b", "\\bimport\\s+(?!java\\.util\\.(ArrayList|List|Arrays|Iterator);)", "::",
        "\\bSystem\\.(?!arraycopy\\b)", "\\bObject\\b", "\\bstatic\\s*\\{", "\\w+Exact\\("};
    private static final Path SOURCE = Path.of("src/main/java/IslandGrammar.java");
    private static final int CALLS = 512;
    private static final long ROOM_OBJECTS = 600_000;
    private static final long ROOM_CELLS = 7_300_000;

    private static int wrong = 0;

    public static void main(String[] args) throws Exception {
        constants();
        publicMembers();
        for (Class<?> type : allClasses()) {
            membersOf(type);
        }
        sourceText();
        room();
        roomOfRun();
        System.out.println(wrong == 0 ? "the face is as due" : wrong + " faults in the face");
        if (wrong != 0) {
            System.exit(1);
        }
    }

    private static void check(boolean good, String fault) {
        if (!good) {
            wrong++;
            System.out.println(fault);
        }
    }

    private static void constants() {
        check(IslandGrammar.NONE == -1, "NONE is " + IslandGrammar.NONE);
        check(IslandGrammar.INVALID == -2, "INVALID is " + IslandGrammar.INVALID);
        check(IslandGrammar.REJECTED == -3, "REJECTED is " + IslandGrammar.REJECTED);
        check(IslandGrammar.FULL == -4, "FULL is " + IslandGrammar.FULL);
    }

    private static void publicMembers() {
        Set<String> wanted = new TreeSet<>(List.of(FACE));
        Set<String> found = new TreeSet<>();
        for (Method method : IslandGrammar.class.getDeclaredMethods()) {
            if (!Modifier.isPrivate(method.getModifiers())) {
                List<String> types = new ArrayList<>();
                for (Class<?> type : method.getParameterTypes()) {
                    types.add(type.getName());
                }
                found.add(method.getReturnType() + " " + method.getName() + "(" + String.join(",", types) + ")");
            }
        }
        check(wanted.equals(found), "the public methods are " + found);
        check(Modifier.isFinal(IslandGrammar.class.getModifiers()), "the class is not final");
        check(IslandGrammar.class.getDeclaredConstructors().length == 1
                && IslandGrammar.class.getConstructors().length == 1
                && IslandGrammar.class.getConstructors()[0].getParameterCount() == 0, "the constructors are others");
        Set<String> fields = new TreeSet<>();
        for (Field field : IslandGrammar.class.getDeclaredFields()) {
            if (!Modifier.isPrivate(field.getModifiers())) {
                fields.add(field.getName());
            }
        }
        check(fields.equals(Set.of("NONE", "INVALID", "REJECTED", "FULL")), "the public fields are " + fields);
    }

    private static List<Class<?>> allClasses() {
        List<Class<?>> all = new ArrayList<>();
        all.add(IslandGrammar.class);
        for (int index = 0; index < all.size(); index++) {
            all.addAll(List.of(all.get(index).getDeclaredClasses()));
        }
        check(all.size() <= 12, all.size() + " classes");
        return all;
    }

    private static void membersOf(Class<?> type) {
        Set<String> faceNames = new HashSet<>();
        for (String method : FACE) {
            faceNames.add(method.substring(method.indexOf(' ') + 1, method.indexOf('(')));
        }
        int fields = 0;
        for (Field field : type.getDeclaredFields()) {
            boolean isStatic = Modifier.isStatic(field.getModifiers());
            check(!isStatic || Modifier.isFinal(field.getModifiers()), field + " is static and not final");
            fields += isStatic ? 0 : 1;
        }
        check(fields <= 20, type + " has " + fields + " fields");
        check(type == IslandGrammar.class || Modifier.isStatic(type.getModifiers()), type + " is not static");
        for (Method method : type.getDeclaredMethods()) {
            check(method.getParameterCount() <= 7, method + " takes too many parameters");
            check(!method.getName().startsWith("lambda$"), type + " holds a lambda");
            check(Modifier.isPublic(method.getModifiers()) || !faceNames.contains(method.getName()),
                    method + " bears the name of a public one");
        }
    }

    private static void sourceText() throws Exception {
        String code = Files.readString(SOURCE).replaceAll("(?s)/\\*.*?\\*/", "").replaceAll("//.*", "");
        for (String word : FORBIDDEN) {
            check(!java.util.regex.Pattern.compile(word).matcher(code).find(), "the program uses " + word);
        }
        check(code.chars().allMatch(sign -> sign < 128), "the program holds a sign beyond 127");
    }

    /** Calls make nothing, so an object's own size tells the room, even if each call made one. */
    private static void room() throws IllegalAccessException {
        long[] size = new long[2];
        measure(new IslandGrammar(), new IdentityHashMap<>(), size);
        System.out.println("an object holds " + size[0] + " objects with " + size[1] + " fields and elements");
        check(size[0] * CALLS < ROOM_OBJECTS, "too many objects");
        check(size[1] * CALLS < ROOM_CELLS, "too many fields and elements");
    }

    /** What a run makes, kept or dropped, as the machine counts it. */
    private static void roomOfRun() {
        if (!(ManagementFactory.getThreadMXBean() instanceof com.sun.management.ThreadMXBean machine)) {
            System.out.println("this machine doesn't count what a run makes");
            return;
        }
        // The first run makes what the machine needs to load the classes.
        dearestRun();
        long before = machine.getCurrentThreadAllocatedBytes();
        long answers = dearestRun();
        long bytes = machine.getCurrentThreadAllocatedBytes() - before;
        System.out.println("a run of " + CALLS + " calls makes " + bytes + " bytes");
        // A field or element takes a byte or more and an object sixteen, so this keeps both bounds.
        check(bytes < ROOM_CELLS, "a run makes too much");
        check(answers == CALLS, "a run of " + answers + " calls");
    }

    /** Full rules and a full text, then a change before each digest: nothing is known from before. */
    private static int dearestRun() {
        IslandGrammar grammar = new IslandGrammar();
        int calls = 0;
        for (char element : "a~~~~~~b".toCharArray()) {
            grammar.append(element);
            calls++;
        }
        for (int rule = 0; rule < 6; rule++) {
            grammar.define(rule);
            calls++;
        }
        for (int position = 0; position < 100; position++) {
            grammar.insert(position, position < 50 ? 'a' : 'b');
            calls++;
        }
        while (calls < CALLS) {
            grammar.replace(0, 'a');
            grammar.digest();
            calls += 2;
        }
        return calls;
    }

    private static void measure(Object object, Map<Object, Boolean> seen, long[] size) throws IllegalAccessException {
        if (object == null || seen.put(object, true) != null) {
            return;
        }
        size[0]++;
        Class<?> type = object.getClass();
        if (type.isArray()) {
            size[1] += Array.getLength(object);
            for (int index = 0; index < Array.getLength(object) && !type.getComponentType().isPrimitive(); index++) {
                measure(Array.get(object, index), seen, size);
            }
            return;
        }
        for (Field field : type.getDeclaredFields()) {
            if (!Modifier.isStatic(field.getModifiers())) {
                size[1]++;
                if (!field.getType().isPrimitive()) {
                    field.setAccessible(true);
                    measure(field.get(object), seen, size);
                }
            }
        }
    }
}
