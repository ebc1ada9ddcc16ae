import java.io.File;
import java.io.IOException;
import java.lang.reflect.Method;
import java.net.URL;
import java.net.URLClassLoader;
import java.nio.file.Files;
import java.nio.file.Path;
import java.util.ArrayList;
import java.util.List;
import java.util.TreeSet;
import java.util.regex.Matcher;
import java.util.regex.Pattern;
import javax.tools.ToolProvider;

/** What README.md shows of the class's use is so: its program, its calls, its items, its list of tests. */
public final class ReadmeTest {
    private static final Path README = Path.of("README.md");
    private static final String SOURCE = "src/main/java/DropDealers.java";
    private static final Path TESTS = Path.of("src/test/java");
    private static final Path OUT = Path.of("build/readme");
    private static final Pattern BLOCK = Pattern.compile("(?ms)^```java\n(.*?)^```$");
    private static final Pattern ANSWERED = Pattern.compile("(x\\.(\\w+)\\(.*\\)); +// (-?\\d+|[A-Z]+): .*");
    private static final Pattern CALL_ROW = Pattern.compile("(?m)^\\| `((?:int|long) \\w+)\\((.*?)\\)` \\|");
    private static final Pattern ITEM_ROW = Pattern.compile("(?m)^\\| `([a-z]+ [A-Z ]+;)` \\| (\\d+) .*? \\| (.*) \\|$");
    private static final Pattern RANGE = Pattern.compile("\\b([A-Z]) \\((\\d+) \\.\\. (\\d+)\\)");
    private static final Pattern FILE = Pattern.compile("\\b(\\w+)\\.java\\b");
    private static final Dues DUES = new Dues("ReadmeTest");

    private final String text;
    // The calls shown, in their order, and their names.
    private final List<String> calls = new ArrayList<>();
    private final TreeSet<String> names = new TreeSet<>();

    private ReadmeTest(String text) {
        this.text = text;
    }

    public static void main(String[] args) throws Exception {
        ReadmeTest test = new ReadmeTest(Files.readString(README));
        test.program();
        test.everyCallIsShown();
        test.tableOfCalls();
        test.tableOfItems();
        test.listOfTests();
        DUES.close();
    }

    private void program() throws Exception {
        Files.createDirectories(OUT);
        Path shown = OUT.resolve("Shown.java");
        Files.writeString(shown, programShown());
        // The class's file and the reader's own, and nothing else.
        int failed = ToolProvider.getSystemJavaCompiler().run(null, null, null,
            "--release", "17", "-cp", OUT.toString(), "-d", OUT.toString(), SOURCE, shown.toString());
        DUES.due("README's program compiles", failed, 0);
        if (failed == 0) {
            List<long[]> pairs = answers();
            DUES.due("all calls of README's program are made", pairs.size(), calls.size());
            for (int i = 0; i < pairs.size(); i++) {
                DUES.due(calls.get(i), pairs.get(i)[0], pairs.get(i)[1]);
            }
        }
    }

    private List<long[]> answers() throws Exception {
        List<long[]> pairs = new ArrayList<>();
        URL[] places = {OUT.toUri().toURL()};
        try (URLClassLoader loader = new URLClassLoader(places, ClassLoader.getPlatformClassLoader())) {
            loader.loadClass("Shown").getMethod("show", List.class).invoke(null, pairs);
        }
        return pairs;
    }

    // Blocks that begin with a method stand beside the others, which are the body of one.
    private String programShown() {
        StringBuilder methods = new StringBuilder();
        StringBuilder body = new StringBuilder();
        Matcher blocks = BLOCK.matcher(text);
        while (blocks.find()) {
            if (blocks.group(1).startsWith("static ")) {
                methods.append(blocks.group(1));
            } else {
                blocks.group(1).lines().forEach(line -> body.append(paired(line)).append('\n'));
            }
        }
        return "public class Shown {\n" + methods
            + "public static void show(java.util.List<long[]> pairs) {\n" + body + "}\n}\n";
    }

    // A call and the answer shown behind it become a pair; no call may be shown without one.
    private String paired(String line) {
        Matcher answered = ANSWERED.matcher(line);
        if (!answered.matches()) {
            DUES.holds("a call with what it answers: " + line, !line.startsWith("x."));
            return line;
        }
        calls.add(line);
        names.add(answered.group(2));
        String due = answered.group(3);
        boolean number = !Character.isUpperCase(due.charAt(0));
        return "pairs.add(new long[] {" + answered.group(1) + ", " + (number ? due : "DropDealers." + due) + "});";
    }

    private void everyCallIsShown() {
        for (Method method : FaceTest.methods()) {
            DUES.holds("README's program has " + method.getName() + "()", names.contains(method.getName()));
        }
    }

    private void tableOfCalls() {
        TreeSet<String> shown = new TreeSet<>();
        Matcher rows = CALL_ROW.matcher(text);
        while (rows.find()) {
            shown.add(rows.group(1) + "(" + rows.group(2).replaceAll(" \\w+(?=,|$)", "").replace(" ", "") + ")");
        }
        TreeSet<String> real = new TreeSet<>();
        for (Method method : FaceTest.methods()) {
            real.add(FaceTest.told(method));
        }
        DUES.holds("README's calls " + shown + " are the face " + real, shown.equals(real));
    }

    private void tableOfItems() {
        int items = 0;
        Matcher rows = ITEM_ROW.matcher(text);
        while (rows.find()) {
            asOftenAsShown(rows.group(1), Integer.parseInt(rows.group(2)));
            asMuchAsShown(rows.group(1), rows.group(3));
            items++;
        }
        DUES.due("README's items", items, 5);
    }

    private static void asOftenAsShown(String item, int most) {
        String one = inNumbers(item);
        reads(one.repeat(most), true);
        reads(one.repeat(most + 1), false);
    }

    private static void asMuchAsShown(String item, String tells) {
        Matcher ranges = RANGE.matcher(tells);
        while (ranges.find()) {
            String letter = ranges.group(1);
            int least = Integer.parseInt(ranges.group(2));
            int most = Integer.parseInt(ranges.group(3));
            reads(inNumbers(item.replace(letter, "" + least)), true);
            reads(inNumbers(item.replace(letter, "" + most)), true);
            reads(inNumbers(item.replace(letter, "" + (most + 1))), false);
            if (least > 0) {
                reads(inNumbers(item.replace(letter, "" + (least - 1))), false);
            }
        }
    }

    // 1 is as told for every letter; a song needs the terraces that it names.
    private static String inNumbers(String item) {
        return item.replaceAll("[A-Z]", "1");
    }

    private static void reads(String items, boolean good) {
        DropDealers x = new DropDealers();
        Dues.type(x, items.startsWith("song") ? "terrace 1 1 1;terrace 1 1 1;" + items : items);
        DUES.holds("README's item: " + items + (good ? " is read" : " is not read"), good == x.hill() > 0);
    }

    private void listOfTests() throws IOException {
        TreeSet<String> listed = new TreeSet<>();
        Matcher files = FILE.matcher(text);
        while (files.find()) {
            listed.add(files.group());
        }
        listed.remove(new File(SOURCE).getName());
        TreeSet<String> real = new TreeSet<>();
        for (File file : TESTS.toFile().listFiles()) {
            real.add(file.getName());
        }
        DUES.holds("README's tests " + listed + " are those there are " + real, listed.equals(real));
        DUES.holds("README's way to run them", text.contains("\n    .ci/run\n") && Files.isExecutable(Path.of(".ci/run")));
    }
}
