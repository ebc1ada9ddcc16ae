import java.io.IOException;
import java.lang.management.ManagementFactory;
import java.lang.reflect.Constructor;
import java.lang.reflect.Field;
import java.lang.reflect.Method;
import java.lang.reflect.Modifier;
import java.nio.file.Files;
import java.nio.file.Path;
import java.util.ArrayList;
import java.util.Arrays;
import java.util.List;
import java.util.Random;
import java.util.TreeSet;
import java.util.regex.Matcher;
import java.util.regex.Pattern;

/** The face as the document has it, what LANGUAGE.md rules out, no call that throws or makes objects. */
public final class FaceTest {
    private static final String SOURCE = "src/main/java/DropDealers.java";
    private static final Dues DUES = new Dues("FaceTest");
    private static final String[] FACE = {
        "int type(long,int)", "int clear()", "int hill()", "int terrace(int,int)", "int drip(int)", "int song(int)",
        "int deal()", "int give(int,int)", "int bird(int)", "int end()", "int now(int)", "int lot(int)",
        "int safe()", "int least(int)", "int today(int)", "long got(int,int,int,int)", "int tried(int,int,int)",
        "int saw(int,int)", "int forget()", "int could(int)", "int who(int,int)",
        "int mark(int,int)", "int keep(int)", "int back(int)", "int count(int)", "long trace()"
    };

    public static void main(String[] args) throws Exception {
        members();
        insides();
        source();
        neverThrows();
        makesNothing();
        DUES.close();
    }

    private static void members() {
        Class<?> face = DropDealers.class;
        DUES.holds("public and final", face.getModifiers() == (Modifier.PUBLIC | Modifier.FINAL));
        TreeSet<String> methods = new TreeSet<>();
        TreeSet<String> names = new TreeSet<>();
        for (Method method : methods()) {
            methods.add(told(method));
            names.add(method.getName());
        }
        DUES.holds("the methods are the document's: " + methods, methods.equals(new TreeSet<>(Arrays.asList(FACE))));
        for (Method method : face.getDeclaredMethods()) {
            boolean open = Modifier.isPublic(method.getModifiers());
            DUES.holds("public or private: " + method, open || Modifier.isPrivate(method.getModifiers()));
            DUES.holds("no name of a public one: " + method, open || !names.contains(method.getName()));
        }
        TreeSet<String> fields = new TreeSet<>();
        for (Field field : face.getDeclaredFields()) {
            if (Modifier.isPublic(field.getModifiers())) {
                fields.add(field.getName());
            } else {
                DUES.holds("private: " + field, Modifier.isPrivate(field.getModifiers()));
            }
        }
        DUES.holds("the constants", fields.equals(new TreeSet<>(List.of("BAD", "STATE", "FULL", "NONE", "NO"))));
        Constructor<?>[] made = face.getDeclaredConstructors();
        DUES.holds("one public constructor", made.length == 1 && made[0].getParameterCount() == 0
            && Modifier.isPublic(made[0].getModifiers()));
    }

    /** The public methods of the class, by their names. */
    static List<Method> methods() {
        List<Method> all = new ArrayList<>();
        for (Method method : DropDealers.class.getMethods()) {
            if (method.getDeclaringClass() == DropDealers.class) {
                all.add(method);
            }
        }
        all.sort((one, other) -> one.getName().compareTo(other.getName()));
        return all;
    }

    /** A method as FACE has it: no names of parameters, no blanks between them. */
    static String told(Method method) {
        StringBuilder text = new StringBuilder(method.getReturnType() + " " + method.getName() + "(");
        for (Class<?> type : method.getParameterTypes()) {
            text.append(text.charAt(text.length() - 1) == '(' ? "" : ",").append(type);
        }
        return text.append(")").toString();
    }

    private static void insides() {
        List<Class<?>> all = new ArrayList<>(List.of(DropDealers.class.getDeclaredClasses()));
        DUES.holds("some twelve classes", all.size() + 1 <= 12);
        for (Class<?> inside : all) {
            int modifiers = inside.getModifiers();
            DUES.holds("static: " + inside, Modifier.isStatic(modifiers));
            DUES.holds("not open: " + inside, !Modifier.isPublic(modifiers) && !Modifier.isProtected(modifiers));
        }
        all.add(DropDealers.class);
        for (Class<?> one : all) {
            int own = 0;
            for (Field field : one.getDeclaredFields()) {
                boolean isStatic = Modifier.isStatic(field.getModifiers());
                DUES.holds("static is final: " + field, !isStatic || Modifier.isFinal(field.getModifiers()));
                own += isStatic ? 0 : 1;
            }
            DUES.holds("some twenty fields: " + one, own <= 20);
            for (Method method : one.getDeclaredMethods()) {
                DUES.holds("seven parameters: " + method, method.getParameterCount() <= 7);
            }
        }
    }

    private static void source() throws IOException {
        String text = Files.readString(Path.of(SOURCE));
        String bare = text.replaceAll("(?s)/\\*.*?\\*/", "").replaceAll("//[^\n]*", "").replaceAll("\"[^\"]*\"", "\"\"");
        String[] ruledOut = {
            "\\bthrow", "\\btry\\b", "\\bcatch\\b", "\\bsynchronized\\b", "\\bassert\\b", "->", "::", "@", "Exact\\b",
            "\\bSystem\\.(?!arraycopy\\b)", "\\bThread\\b", "\\bRandom\\b", "\\bpackage\\b", "\\btoString\\b",
            "\\bhashCode\\b", "while \\(true\\)", "for \\(;;\\)", "\\bMath\\.(?!max\\b|min\\b)",
            "\\bArrays\\.(?!fill\\b|copyOf\\b)", "\\bstatic \\{"
        };
        for (String one : ruledOut) {
            Matcher matcher = Pattern.compile(one).matcher(bare);
            DUES.holds("not in the source: " + one, !matcher.find());
        }
        Matcher imports = Pattern.compile("\\bimport [^;]*;").matcher(bare);
        while (imports.find()) {
            DUES.holds(imports.group(), imports.group().equals("import java.util.Arrays;"));
        }
        DUES.holds("only signs that a text may have", text.chars().allMatch(sign -> sign < 128));
    }

    private static final int[] EDGES = {
        Integer.MIN_VALUE, Integer.MIN_VALUE + 1, -300, -11, -10, -9, -2, -1, 0, 1, 2, 3, 4, 5, 6, 7, 8, 9, 10,
        11, 12, 13, 19, 20, 21, 30, 31, 32, 63, 64, 99, 100, 300, 301, Integer.MAX_VALUE - 1, Integer.MAX_VALUE
    };

    private static void neverThrows() throws Exception {
        List<Method> methods = methods();
        for (int seed = 0; seed < 300; seed++) {
            Random random = new Random(seed);
            DropDealers x = new DropDealers();
            if (seed % 5 != 0) {
                Dues.type(x, new RandomText(random).good());
                x.hill();
            }
            for (int call = 0; call < 700; call++) {
                Method method = methods.get(random.nextInt(methods.size()));
                if (!method.getName().equals("hill") || random.nextInt(30) == 0) {
                    callWith(x, method, random);
                }
            }
        }
    }

    private static void callWith(DropDealers x, Method method, Random random) throws Exception {
        Object[] values = new Object[method.getParameterCount()];
        for (int i = 0; i < values.length; i++) {
            int edge = EDGES[random.nextInt(EDGES.length)];
            boolean near = random.nextInt(3) > 0;
            int value = near ? random.nextInt(8) - 1 : edge;
            values[i] = method.getParameterTypes()[i] == long.class ? (Object) random.nextLong() : (Object) value;
        }
        boolean threw = false;
        try {
            method.invoke(x, values);
        } catch (java.lang.reflect.InvocationTargetException thrown) {
            threw = true;
            System.out.println(thrown.getCause());
        }
        DUES.holds(method.getName() + Arrays.toString(values) + " does not throw", !threw);
    }

    private static long askAll(DropDealers x) {
        long sum = x.safe() + x.least(20) + x.today(-1) + x.today(2) + x.tried(3, 9, -1) + x.tried(3, 9, 2);
        sum += x.got(12, 1, 5, 0) + x.got(12, 1, 5, 1) + x.could(12) + x.who(12, 11) + x.mark(3, 1) + x.mark(4, 1);
        sum += x.deal() + x.give(0, 1) + x.bird(0) + x.end() + x.keep(0) + x.back(0) + x.saw(3, 3) + x.forget();
        sum += x.now(2) + x.count(1) + x.trace() + x.terrace(0, 0) + x.drip(3) + x.song(1) + x.lot(7);
        sum += x.type(0x6C617720313BL, 6) + x.hill() + x.type(0x6C61772037L, 5) + x.hill() + x.clear();
        return sum;
    }

    // All calls of a run live in one room, so what a call needs is made in the constructors.
    private static void makesNothing() {
        if (!(ManagementFactory.getThreadMXBean() instanceof com.sun.management.ThreadMXBean bean)
                || !bean.isThreadAllocatedMemorySupported()) {
            return;
        }
        String hill = "terrace 3 4 1;terrace 0 2 0;terrace 9 3 0;drip 7 3;drip 12 2;slip 3;song 0 1;";
        askAll(Dues.told(hill));
        DropDealers x = Dues.told(hill);
        long self = Thread.currentThread().getId();
        bean.getThreadAllocatedBytes(self);
        long before = bean.getThreadAllocatedBytes(self);
        askAll(x);
        long made = bean.getThreadAllocatedBytes(self) - before;
        DUES.holds("calls make no objects, but made " + made + " bytes", made < 200);
    }
}
