import java.io.File;
import java.io.PrintWriter;
import java.io.StringWriter;
import java.util.ArrayList;
import java.util.LinkedHashMap;
import java.util.List;
import java.util.Map;
import java.util.Set;
import java.util.TreeMap;
import java.util.TreeSet;
import java.util.regex.Matcher;
import java.util.regex.Pattern;
import java.util.spi.ToolProvider;

/** Rules of LANGUAGE.md that the compiled class shows: what it calls, how deep, what it makes and where. */
public final class RuleTest {
    private static final Dues DUES = new Dues("RuleTest");
    private static final int DEEPEST = 8;
    private static final int LONGEST = 60;
    private static final Set<String> LIBRARY = Set.of(
        "java/lang/Object.<init>", "java/lang/String.length", "java/lang/String.charAt", "java/lang/System.arraycopy",
        "java/util/Arrays.fill", "java/lang/Math.max", "java/lang/Math.min");
    private static final Set<String> RULED_OUT = Set.of(
        "athrow", "invokedynamic", "invokeinterface", "monitorenter", "checkcast", "instanceof", "jsr", "putstatic");
    private static final Set<String> MAKERS = Set.of("new", "newarray", "anewarray", "multianewarray");

    private static final Pattern CLASS = Pattern.compile("^[a-z ]*class (\\S+)(?: extends (\\S+))? \\{$");
    private static final Pattern METHOD = Pattern.compile("^  [^ ].*?([\\w$]+)\\(.*\\);$");
    private static final Pattern DESCRIPTOR = Pattern.compile("^    descriptor: (\\(\\S+)$");
    private static final Pattern CODE = Pattern.compile("^ +\\d+: (\\w+).*?(?:// (?:Method (.*))?.*)?$");
    private static final Pattern LINE = Pattern.compile("^ +line (\\d+): \\d+$");

    /** A method of the class, as it was compiled. */
    private static final class Body {
        final Set<String> codes = new TreeSet<>();
        final Set<String> calls = new TreeSet<>();
        int firstLine = Integer.MAX_VALUE;
        int lastLine;
    }

    private final Map<String, String> above = new LinkedHashMap<>();
    private final Map<String, Body> bodies = new TreeMap<>();
    private final Map<String, Integer> depths = new TreeMap<>();
    // Where the listing is read.
    private String inside = "";
    private String name = "";
    private Body body = new Body();

    public static void main(String[] args) {
        RuleTest test = new RuleTest();
        for (File file : classFiles()) {
            test.read(listing(file));
        }
        test.found();
        test.codes();
        test.library();
        test.depth();
        DUES.close();
    }

    private static List<File> classFiles() {
        File place = new File(System.getProperty("java.class.path").split(File.pathSeparator)[0]);
        List<File> files = new ArrayList<>();
        for (File file : place.listFiles()) {
            if (file.getName().matches("DropDealers(\\$.*)?\\.class")) {
                files.add(file);
            }
        }
        return files;
    }

    private static String listing(File file) {
        StringWriter text = new StringWriter();
        PrintWriter out = new PrintWriter(text);
        int failed = ToolProvider.findFirst("javap").orElseThrow().run(out, out, "-c", "-p", "-s", "-l", file.getPath());
        DUES.due("javap of " + file, failed, 0);
        return text.toString();
    }

    private void read(String listing) {
        listing.lines().forEach(line -> {
            readHead(line);
            readBody(line);
        });
    }

    private void readHead(String line) {
        Matcher head = CLASS.matcher(line);
        if (head.matches()) {
            inside = head.group(1);
            above.put(inside, head.group(2));
        }
        Matcher method = METHOD.matcher(line);
        if (method.matches()) {
            name = method.group(1).equals(inside) ? "<init>" : method.group(1);
        }
        Matcher types = DESCRIPTOR.matcher(line);
        if (types.matches()) {
            body = new Body();
            bodies.put(inside + "." + name + ":" + types.group(1), body);
        }
    }

    private void readBody(String line) {
        Matcher source = LINE.matcher(line);
        if (source.matches()) {
            body.firstLine = Math.min(body.firstLine, Integer.parseInt(source.group(1)));
            body.lastLine = Math.max(body.lastLine, Integer.parseInt(source.group(1)));
        }
        Matcher code = CODE.matcher(line);
        if (code.matches()) {
            body.codes.add(code.group(1));
        }
        if (code.matches() && code.group(2) != null) {
            // A class's own method is told without the class.
            String called = code.group(2).replace("\"", "");
            body.calls.add(called.matches("[^(:]*\\..*") ? called : inside + "." + called);
        }
    }

    // What follows says nothing if the listing was not understood.
    private void found() {
        List<Class<?>> classes = new ArrayList<>(List.of(DropDealers.class.getDeclaredClasses()));
        classes.add(DropDealers.class);
        int methods = 0;
        for (Class<?> one : classes) {
            DUES.holds("found " + one, above.containsKey(one.getName()));
            methods += one.getDeclaredMethods().length + one.getDeclaredConstructors().length;
        }
        DUES.due("the classes", above.size(), classes.size());
        DUES.due("the methods", bodies.size(), methods);
    }

    // Rules 2, 6, 11 and 12: and objects are made in constructors alone.
    private void codes() {
        bodies.forEach((name, body) -> {
            for (String code : body.codes) {
                DUES.holds(name + " has no " + code, !RULED_OUT.contains(code));
                DUES.holds(name + " makes nothing", !MAKERS.contains(code) || name.contains(".<init>:"));
            }
            DUES.holds(name + " is short", body.lastLine - body.firstLine < LONGEST);
        });
    }

    private void library() {
        bodies.forEach((name, body) -> {
            for (String called : body.calls) {
                String bare = called.substring(0, called.indexOf(':'));
                DUES.holds(name + " calls " + bare, bare.startsWith("DropDealers") || LIBRARY.contains(bare));
            }
        });
    }

    // Rule 11, with the library's own calls counted.
    private void depth() {
        for (String name : bodies.keySet()) {
            int deep = depthOf(name, new ArrayList<>());
            DUES.holds(name + " goes " + deep + " deep", deep <= DEEPEST);
        }
        DUES.holds("some calls are deep", depths.get("DropDealers.hill:()I") > 5);
    }

    private int depthOf(String name, List<String> open) {
        if (open.contains(name)) {
            DUES.holds("no recursion: " + open + " " + name, false);
            return DEEPEST + 1;
        }
        if (!depths.containsKey(name)) {
            open.add(name);
            int most = 0;
            Body body = bodies.get(name);
            for (String called : body == null ? Set.<String>of() : body.calls) {
                for (String one : meant(name, called)) {
                    most = Math.max(most, depthOf(one, open));
                }
            }
            open.remove(name);
            depths.put(name, most + 1);
        }
        return depths.get(name);
    }

    // A call of a kind may be one of each kind under it, or of one above it, if it has no such body.
    private Set<String> meant(String caller, String called) {
        String inside = called.substring(0, called.indexOf('.'));
        String rest = called.substring(called.indexOf('.'));
        Set<String> all = new TreeSet<>();
        for (String one = inside; one != null && all.isEmpty(); one = above.get(one)) {
            if (bodies.containsKey(one + rest)) {
                all.add(one + rest);
            }
        }
        boolean upwards = caller.endsWith(rest);
        for (String one : above.keySet()) {
            if (!upwards && isUnder(one, inside) && bodies.containsKey(one + rest)) {
                all.add(one + rest);
            }
        }
        return all.isEmpty() ? Set.of(called) : all;
    }

    private boolean isUnder(String one, String other) {
        boolean under = false;
        for (String kind = one; kind != null; kind = above.get(kind)) {
            under |= kind.equals(other);
        }
        return under;
    }
}
