import java.io.IOException;
import java.nio.file.Files;
import java.nio.file.Path;
import java.util.ArrayList;
import java.util.Collections;
import java.util.List;
import java.util.regex.Matcher;
import java.util.regex.Pattern;
import java.util.stream.Collectors;
import java.util.stream.Stream;

/** README.md: the example in it, call by call, and that it names every method and every test. */
public final class ReadmeTest {
    private static final Check CHECK = new Check("ReadmeTest");
    private static final Pattern CALL = Pattern.compile("house\\.(\\w+)\\(([-\\d, ]*)\\);\\s+// (-?\\d+)\\b.*");

    public static void main(String[] args) throws IOException {
        List<String> lines = Files.readAllLines(Path.of("README.md"));
        example(lines);
        everyMethod(String.join("\n", lines));
        everyTest(String.join("\n", lines));
        CHECK.close();
    }

    private static void example(List<String> lines) {
        HoldHouse house = new HoldHouse();
        int calls = 0;
        for (String line : lines) {
            Matcher told = CALL.matcher(line);
            CHECK.isTrue("an answer is told: " + line, !line.startsWith("house.") || told.matches());
            if (told.matches()) {
                int[] call = callOf(told.group(1), told.group(2));
                CHECK.due(line, Calls.on(house, call), Integer.parseInt(told.group(3)));
                calls++;
            }
        }
        CHECK.isTrue("the example has calls", calls > 20);
    }

    /** A call by its number, as Calls takes it. */
    private static int[] callOf(String name, String given) {
        List<Integer> call = new ArrayList<>();
        int many = given.isEmpty() ? 0 : given.split(", ").length;
        call.add(List.of(Calls.HEADS).indexOf(name + " " + many));
        CHECK.isTrue("there is such a call: " + name, call.get(0) >= 0);
        for (int i = 0; i < many; i++) {
            call.add(Integer.parseInt(given.split(", ")[i]));
        }
        return call.stream().mapToInt(i -> i).toArray();
    }

    /** Each method stands in a table, with as many parameters as it has. */
    private static void everyMethod(String text) {
        for (String head : Calls.HEADS) {
            String[] parts = head.split(" ");
            int many = Integer.parseInt(parts[1]);
            String params = String.join(", ", Collections.nCopies(many, "\\w+"));
            boolean there = Pattern.compile("\\| `" + parts[0] + "\\(" + params + "\\)` \\|").matcher(text).find();
            CHECK.isTrue("README tells of " + head, there);
        }
    }

    private static void everyTest(String text) throws IOException {
        try (Stream<Path> files = Files.list(Path.of("src/test/java"))) {
            List<String> names = files.map(file -> file.getFileName().toString())
                    .filter(name -> name.endsWith("Test.java")).sorted().collect(Collectors.toList());
            CHECK.isTrue("there are tests", names.size() > 10);
            for (String name : names) {
                String test = name.substring(0, name.length() - ".java".length());
                CHECK.isTrue("README tells of " + test, text.contains("| `" + test + "` |"));
            }
        }
    }
}
