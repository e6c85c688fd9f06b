import java.io.IOException;
import java.lang.reflect.InvocationTargetException;
import java.lang.reflect.Method;
import java.nio.file.Files;
import java.nio.file.Path;
import java.util.ArrayList;
import java.util.List;
import java.util.Set;
import java.util.TreeSet;
import java.util.regex.Matcher;
import java.util.regex.Pattern;
import java.util.stream.Stream;

/** README.md is so: each call there answers what stands behind it; every call and every test is told. */
public final class ReadmeTest {
    private static final Pattern NEW = Pattern.compile("JoinedMonths x = new JoinedMonths\\(\\);");
    private static final Pattern SAY = Pattern.compile("say\\(x, \"([^\"\\\\]*)\"\\);");
    private static final Pattern CALL = Pattern.compile("x\\.(\\w+)\\(([^()]*)\\);\\s+// ([^ :]+): \\S.*");
    private static final Pattern TEST = Pattern.compile("\\b[A-Z]\\w*Test\\b");
    private static final Path TESTS = Path.of("src/test/java");
    private static final Check C = new Check("ReadmeTest");

    private final Set<String> told = new TreeSet<>();
    private JoinedMonths x = null;
    private int calls = 0;

    public static void main(String[] args) throws Exception {
        List<String> page = Files.readAllLines(Path.of("README.md"));
        ReadmeTest test = new ReadmeTest();
        for (List<String> block : javaBlocks(page)) {
            if (block.get(0).startsWith("static ")) {
                isOfCheck(block);
            } else {
                test.run(block);
            }
        }
        C.yes("README.md has calls, 512 at most of one object", test.calls > 0 && test.calls <= 512);
        for (Method m : Draw.face()) {
            C.yes("README.md tells " + m.getName() + "()", test.told.contains(m.getName()));
        }
        tellsTests(page);
        C.end();
    }

    private static List<List<String>> javaBlocks(List<String> page) {
        List<List<String>> blocks = new ArrayList<>();
        boolean within = false;
        for (String line : page) {
            if (line.equals("```java")) {
                blocks.add(new ArrayList<>());
                within = true;
            } else if (line.startsWith("```")) {
                within = false;
            } else if (within) {
                blocks.get(blocks.size() - 1).add(line);
            }
        }
        return blocks;
    }

    /** The helper on the page is the one that the tests use, so it does what the page says of it. */
    private static void isOfCheck(List<String> block) throws IOException {
        String source = Files.readString(TESTS.resolve("Check.java")).replaceAll("\\s+", " ");
        String helper = String.join(" ", block).replaceAll("\\s+", " ");
        C.yes(block.get(0) + " is that of Check.java", source.contains(helper));
    }

    private void run(List<String> block) throws Exception {
        for (String line : block) {
            Matcher say = SAY.matcher(line);
            Matcher call = CALL.matcher(line);
            if (NEW.matcher(line).matches()) {
                x = new JoinedMonths();
                calls = 0;
            } else if (say.matches()) {
                Check.say(x, say.group(1));
                calls += 2 + (say.group(1).length() + 3) / 4;
            } else {
                C.yes("a call with its answer: " + line, call.matches());
                if (call.matches()) {
                    String got = ask(call.group(1), call.group(2));
                    C.yes(line.trim() + " answered " + got, got.equals(call.group(3)));
                }
            }
        }
    }

    private String ask(String name, String args) throws Exception {
        told.add(name);
        calls++;
        String[] each = args.isBlank() ? new String[0] : args.split(",");
        Class<?>[] types = new Class<?>[each.length];
        Object[] numbers = new Object[each.length];
        for (int i = 0; i < each.length; i++) {
            types[i] = int.class;
            numbers[i] = Integer.decode(each[i].trim());
        }
        try {
            return JoinedMonths.class.getMethod(name, types).invoke(x, numbers).toString();
        } catch (InvocationTargetException e) {
            return e.getCause().getClass().getSimpleName();
        }
    }

    private static void tellsTests(List<String> page) throws IOException {
        Set<String> due = new TreeSet<>();
        try (Stream<Path> files = Files.list(TESTS)) {
            files.map(f -> f.getFileName().toString()).filter(f -> f.endsWith("Test.java"))
                    .forEach(f -> due.add(f.substring(0, f.length() - ".java".length())));
        }
        Set<String> inTables = new TreeSet<>();
        for (String line : page) {
            Matcher m = TEST.matcher(line.startsWith("| ") ? line : "");
            while (m.find()) {
                inTables.add(m.group());
            }
        }
        C.yes("the tables of README.md tell " + inTables + ", there are " + due, inTables.equals(due));
    }
}
