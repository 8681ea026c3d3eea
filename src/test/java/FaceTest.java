import java.io.IOException;
import java.lang.management.ManagementFactory;
import java.lang.reflect.Constructor;
import java.lang.reflect.Field;
import java.lang.reflect.Method;
import java.lang.reflect.Modifier;
import java.nio.file.Files;
import java.nio.file.Path;
import java.util.Arrays;
import java.util.List;
import java.util.Random;
import java.util.TreeSet;

/** The document's face, the rules of the language that can be seen in the text, wild arguments, the room. */
public final class FaceTest {
    private static final Check CHECK = new Check("FaceTest");
    public static void main(String[] args) throws Exception {
        face();
        constants();
        text();
        refusedChangesNothing();
        wildCalls();
        wildCallsBeyond();
        sameCallsSameAnswers();
        room();
        CHECK.close();
    }

    private static void face() {
        TreeSet<String> seen = new TreeSet<>();
        for (Method method : HoldHouse.class.getDeclaredMethods()) {
            boolean open = Modifier.isPublic(method.getModifiers());
            if (open) {
                seen.add(method.getName() + " " + method.getParameterCount());
                CHECK.isTrue("int of ints: " + method, method.getReturnType() == int.class
                        && Arrays.stream(method.getParameterTypes()).allMatch(type -> type == int.class));
                CHECK.isTrue("not static: " + method, !Modifier.isStatic(method.getModifiers()));
            } else if (!method.isSynthetic()) {
                CHECK.isTrue("private: " + method, Modifier.isPrivate(method.getModifiers()));
                CHECK.isTrue("a name of its own: " + method, !isHead(method.getName()));
            }
        }
        CHECK.isTrue("the heads " + seen, seen.equals(new TreeSet<>(Arrays.asList(Calls.HEADS))));
        Constructor<?>[] constructors = HoldHouse.class.getDeclaredConstructors();
        CHECK.due("constructors", constructors.length, 1);
        CHECK.due("its parameters", constructors[0].getParameterCount(), 0);
        CHECK.isTrue("it is public", Modifier.isPublic(constructors[0].getModifiers()));
        CHECK.isTrue("final", Modifier.isFinal(HoldHouse.class.getModifiers()));
        Class<?>[] inside = HoldHouse.class.getDeclaredClasses();
        CHECK.isTrue("some twelve classes", inside.length <= 12);
        for (Class<?> one : inside) {
            CHECK.isTrue("static: " + one, Modifier.isStatic(one.getModifiers()));
            CHECK.isTrue("not public: " + one, !Modifier.isPublic(one.getModifiers()));
            CHECK.isTrue("some twenty fields: " + one, one.getDeclaredFields().length <= 20);
            for (Method method : one.getDeclaredMethods()) {
                CHECK.isTrue("a name of its own: " + method, !isHead(method.getName()));
            }
        }
    }

    private static boolean isHead(String name) {
        return Arrays.stream(Calls.HEADS).anyMatch(head -> head.substring(0, head.indexOf(' ')).equals(name));
    }

    private static void constants() {
        CHECK.due("BAD", HoldHouse.BAD, -1);
        CHECK.due("STATE", HoldHouse.STATE, -2);
        CHECK.due("FULL", HoldHouse.FULL, -3);
        CHECK.due("OLD", HoldHouse.OLD, -6);
        CHECK.due("NONE", HoldHouse.NONE, -9);
        int open = 0;
        for (Field field : HoldHouse.class.getDeclaredFields()) {
            int bits = field.getModifiers();
            open += Modifier.isPublic(bits) ? 1 : 0;
            CHECK.isTrue("public or private: " + field, Modifier.isPublic(bits) || Modifier.isPrivate(bits));
            CHECK.isTrue("static means final: " + field, !Modifier.isStatic(bits) || Modifier.isFinal(bits));
        }
        CHECK.due("public constants", open, 5);
    }

    private static void text() throws IOException {
        List<String> lines = Files.readAllLines(Path.of("src/main/java/HoldHouse.java"));
        List<String> banned = Arrays.asList("throw", "try", "catch", "synchronized", "assert", "String", "package",
                "native", "volatile", "protected", "instanceof", "Object", "System.out", "Random", "Thread", "hashCode",
                "equals", "toString");
        int params = 0;
        for (String line : lines) {
            String code = line.replaceAll("//.*", "").replaceAll("^\\s*/?\\*.*", "");
            for (String word : banned) {
                boolean there = code.matches(".*\\b" + word.replace(".", "\\.") + "\\b.*");
                CHECK.isTrue("no " + word + ": " + line, !there);
            }
            CHECK.isTrue("no arrow, no reference, no text: " + line,
                    !code.contains("->") && !code.contains("::") && !code.contains("\"") && !code.contains("Exact"));
            CHECK.isTrue("one import: " + line, !code.startsWith("import") || code.equals("import java.util.ArrayList;"));
            CHECK.isTrue("no for over a list: " + line, !code.matches(".*for \\([^;]* : .*"));
            CHECK.isTrue("line is short: " + line, line.length() <= 120);
            if (code.matches("^\\s+[\\w<>\\[\\] ]+\\(.*\\) \\{$") && !code.contains("if (") && !code.contains("for (")) {
                params = Math.max(params, code.length() - code.replace(",", "").length() + 1);
            }
        }
        CHECK.isTrue("at most seven parameters: " + params, params <= 7);
        CHECK.isTrue("short methods", longestMethod(lines) <= 60);
    }

    private static int longestMethod(List<String> lines) {
        int longest = 0;
        int start = 0;
        String indent = null;
        for (int i = 0; i < lines.size(); i++) {
            String line = lines.get(i);
            if (line.matches("^(    |        )\\w.*\\) \\{$") && !line.contains(" if (") && !line.contains(" for (")) {
                start = i;
                indent = line.startsWith("        ") ? "        " : "    ";
            }
            if (indent != null && line.equals(indent + "}")) {
                longest = Math.max(longest, i - start + 1);
                indent = null;
            }
        }
        return longest;
    }

    /** A house with much in it: folders, levels, waits, a ring, ends, one undone. */
    private static void busy(HoldHouse x) {
        x.make(0, -1, 0);
        for (int sort = 0; sort < 8; sort++) {
            x.make(sort, 0, 9);
        }
        x.group(2);
        for (int t = 1; t <= 5; t++) {
            x.begin(t);
        }
        x.act(1, 2, Kinds.ADD, 3, 0);
        x.act(1, 8, Kinds.POINT, 2, 0);
        x.end(1);
        x.act(2, 3, Kinds.PUT, 1, 0);
        x.nest(2);
        x.act(2, 5, Kinds.ENTER, 4, 0);
        x.act(3, 4, Kinds.INSERT, 4, 0);
        x.act(3, 3, Kinds.GET, 0, 0);
        x.act(4, 6, Kinds.STORE, 4, 4);
        x.act(4, 3, Kinds.PUT, 2, 0);
        x.act(5, 7, Kinds.PAY, 2, 0);
        x.act(5, 7, Kinds.BY, 0, 0);
        x.begin(0);
        x.act(6, 2, Kinds.ADD, 1, 0);
        x.act(6, 7, Kinds.DRAW, 1, 0);
        x.act(5, 2, Kinds.GET, 1, 0);
    }

    private static void refusedChangesNothing() {
        Scene scene = new Scene(CHECK, FaceTest::busy);
        int refused = 0;
        Random random = new Random(5);
        for (int n = 0; n < 2500; n++) {
            int[] call = wild(random);
            int answer = Calls.on(scene.house(), call);
            boolean asks = Calls.isQuestion(call[0]);
            if (asks ? n % 8 == 0 : answer == -1 || answer == -2 || answer == -3) {
                refused++;
                scene.refused(Calls.name(call), x -> Calls.on(x, call), answer);
            }
        }
        CHECK.isTrue("many were refused", refused > 1000);
    }

    private static int[] wild(Random random) {
        int[] wild = new int[6];
        wild[0] = random.nextInt(Calls.MANY);
        for (int i = 1; i < 6; i++) {
            wild[i] = random.nextInt(3) == 0 ? Kinds.WILD[random.nextInt(Kinds.WILD.length)] : random.nextInt(12) - 1;
        }
        return wild;
    }

    private static void wildCalls() {
        for (int seed = 0; seed < 1000; seed++) {
            Random random = new Random(seed);
            HoldHouse x = seed % 2 == 0 ? new HoldHouse() : busyHouse();
            for (int n = 0; n < 450; n++) {
                Calls.on(x, wild(random));
            }
            CHECK.due("serial", x.serial(), 1);
        }
    }

    private static HoldHouse busyHouse() {
        HoldHouse x = new HoldHouse();
        busy(x);
        return x;
    }

    /** "No call may ever throw or fail to end", beyond the 512th too, where answers are free. */
    private static void wildCallsBeyond() {
        for (int seed = 0; seed < 100; seed++) {
            Random random = new Random(seed);
            HoldHouse x = seed % 2 == 0 ? new HoldHouse() : busyHouse();
            for (int n = 0; n < 3000; n++) {
                Calls.on(x, wild(random));
            }
        }
    }

    private static void sameCallsSameAnswers() {
        HoldHouse x = busyHouse();
        HoldHouse y = busyHouse();
        Random random = new Random(77);
        for (int n = 0; n < 450; n++) {
            int[] call = wild(random);
            CHECK.due("the same " + Calls.name(call), Calls.on(x, call), Calls.on(y, call));
        }
    }

    /** 512 dear calls take far less than the 7.3 million fields of the room, at eight bytes each. */
    private static void room() {
        if (!(ManagementFactory.getThreadMXBean() instanceof com.sun.management.ThreadMXBean)) {
            return;
        }
        com.sun.management.ThreadMXBean bean = (com.sun.management.ThreadMXBean) ManagementFactory.getThreadMXBean();
        long id = Thread.currentThread().getId();
        long before = bean.getThreadAllocatedBytes(id);
        HoldHouse x = new HoldHouse();
        for (int depth = 0; depth < 5; depth++) {
            x.make(0, depth - 1, 0);
        }
        for (int i = 5; i < 40; i++) {
            x.make(6, 4, 100);
        }
        for (int t = 1; t <= 12; t++) {
            x.begin(0);
        }
        for (int n = 0; n < 360; n++) {
            x.act(1 + n % 12, 5 + n % 30, Kinds.MOVE, n / 12 % 100, 5 + (n * 7 + 1) % 31);
        }
        for (int n = 0; n < 30; n++) {
            x.serial();
            x.tried(5, 12, 0, 12, 1);
            x.crash();
        }
        long used = bean.getThreadAllocatedBytes(id) - before;
        CHECK.isTrue("room: " + used + " bytes", used < 3000000);
    }
}
