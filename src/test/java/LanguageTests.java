import com.sun.management.ThreadMXBean;
import java.io.IOException;
import java.lang.management.ManagementFactory;
import java.lang.reflect.Constructor;
import java.lang.reflect.Field;
import java.lang.reflect.Method;
import java.lang.reflect.Modifier;
import java.nio.file.Files;
import java.nio.file.Path;
import java.util.Arrays;
import java.util.List;
import java.util.Random;
import java.util.Set;
import java.util.TreeSet;
import java.util.regex.Matcher;
import java.util.regex.Pattern;

/** The rules of LANGUAGE.md that a text search, reflection or a count of bytes can see. */
public final class LanguageTests {
    private static final Check CHECK = new Check();
    private static final Set<String> FACE = new TreeSet<>(List.of(
        "int feed(int,int,int,int,int)", "int back(int)", "int read(int)", "int place()",
        "int person(int,int,int,int)", "int topic(int)", "int tape(int,int,int)",
        "int piece(int,int,int,int,int,int)", "int asker(int)", "int copy(int)", "boolean bound(int)",
        "boolean dies(int,int)", "boolean takes(int,int)", "int let(int,int,int,int)",
        "int mask(int,int,int,int)", "int would(int,int,int,int,int)", "int ask(int,int,int,int,int)",
        "int heard(int,int)", "int could(int,int)", "int seconds(int,int)", "int opens(int,int,int,int)",
        "int at(int,int)", "int span(int,int,int)", "int behind(int,int,int)", "int same(int,int)",
        "int left(int)", "int when(int,int,int)", "int count(int)"));

    public static void main(String[] args) throws Exception {
        faceOfTheDocument();
        face();
        classesInside();
        words();
        room();
        anyArguments();
        CHECK.end();
    }

    /** The names of the public methods. */
    static Set<String> names() {
        Set<String> names = new TreeSet<>();
        FACE.forEach(method -> names.add(method.replaceAll(".* |\\(.*", "")));
        return names;
    }

    private static void holds(String what, boolean holds) {
        CHECK.due(what, holds, true);
    }

    private static String signature(Method method) {
        StringBuilder text = new StringBuilder(method.getReturnType() + " " + method.getName() + "(");
        for (Class<?> type : method.getParameterTypes()) {
            text.append(text.charAt(text.length() - 1) == '(' ? "" : ",").append(type);
        }
        return text.append(")").toString();
    }

    /** FACE is what the document's block of Java says, but for the names of arguments. */
    private static void faceOfTheDocument() throws IOException {
        String path = System.getProperty("tapehouse.document");
        if (path == null) {
            return;
        }
        String document = Files.readString(Path.of(path));
        Set<String> methods = new TreeSet<>();
        Matcher matcher = Pattern.compile("public (int|boolean) (\\w+)\\(([^)]*)\\);").matcher(document);
        while (matcher.find()) {
            String types = matcher.group(3).replaceAll(" \\w+(, |$)", "$1").replace(", ", ",");
            methods.add(matcher.group(1) + " " + matcher.group(2) + "(" + types + ")");
        }
        holds("the document's face: " + methods, methods.equals(FACE));
        holds("NONE is the document's", document.contains("public static final int NONE = " + TapeHouse.NONE + ";"));
    }

    private static void face() throws Exception {
        Class<?> house = TapeHouse.class;
        holds("public final", Modifier.isPublic(house.getModifiers()) && Modifier.isFinal(house.getModifiers()));
        Set<String> methods = new TreeSet<>();
        for (Method method : house.getDeclaredMethods()) {
            if (!Modifier.isPrivate(method.getModifiers())) {
                methods.add(signature(method));
                holds(method.getName() + " is public and not static", method.getModifiers() == Modifier.PUBLIC);
            }
        }
        holds("the methods are the face's: " + methods, methods.equals(FACE));
        for (Field field : house.getDeclaredFields()) {
            holds(field.getName() + " is private", field.getName().equals("NONE") || Modifier.isPrivate(field.getModifiers()));
        }
        Constructor<?>[] constructors = house.getDeclaredConstructors();
        holds("one constructor", constructors.length == 1 && constructors[0].getModifiers() == Modifier.PUBLIC
            && constructors[0].getParameterCount() == 0);
    }

    private static void classesInside() {
        Set<String> publicNames = names();
        Class<?>[] inside = TapeHouse.class.getDeclaredClasses();
        holds("at most twelve classes", inside.length + 1 <= 12);
        for (Class<?> one : inside) {
            holds(one + " is static", Modifier.isStatic(one.getModifiers()) && one.getDeclaredClasses().length == 0);
            fields(one);
            methods(one, publicNames);
        }
        fields(TapeHouse.class);
        for (Method method : TapeHouse.class.getDeclaredMethods()) {
            holds(method + " has its own name", Modifier.isPublic(method.getModifiers()) || !publicNames.contains(method.getName()));
        }
    }

    private static void fields(Class<?> one) {
        int own = 0;
        for (Field field : one.getDeclaredFields()) {
            boolean isStatic = Modifier.isStatic(field.getModifiers());
            own += isStatic ? 0 : 1;
            holds(field + " is a constant", !isStatic || (Modifier.isFinal(field.getModifiers())
                && List.of(int.class, long.class, boolean.class, char.class, String.class).contains(field.getType())));
        }
        holds(one + " has at most twenty fields", own <= 20);
    }

    private static void methods(Class<?> one, Set<String> publicNames) {
        for (Method method : one.getDeclaredMethods()) {
            holds(method + " has a name of its own", !publicNames.contains(method.getName()));
            holds(method + " has at most seven parameters", method.getParameterCount() <= 7);
        }
    }

    private static void words() throws IOException {
        Path path = Path.of(System.getProperty("tapehouse.source", "src/main/java/TapeHouse.java"));
        String source = Files.readString(path).replaceAll("(?s)/\\*.*?\\*/|//[^\n]*", " ");
        String bare = source.replaceAll("\"[^\"\n]*\"|'[^'\n]*'", "0");
        Pattern ruledOut = Pattern.compile("\\b(throw|throws|try|catch|synchronized|assert|package|Exact|Object|Thread|System"
            + "|hashCode|toString|getClass|native|volatile|transient)\\b|->|::|@");
        Matcher matcher = ruledOut.matcher(bare);
        while (matcher.find()) {
            holds("no " + matcher.group(), false);
        }
        Matcher imports = Pattern.compile("import ([^;]*);").matcher(bare);
        while (imports.find()) {
            holds("import of " + imports.group(1), imports.group(1).equals("java.util.Arrays"));
        }
        Matcher arrays = Pattern.compile("\\bArrays\\.(\\w+)").matcher(bare);
        while (arrays.find()) {
            holds("Arrays." + arrays.group(1), arrays.group(1).equals("fill"));
        }
        Matcher texts = Pattern.compile("\"\\s*\\+|\\+\\s*\"").matcher(source);
        holds("no texts joined by +", !texts.find());
    }

    /** A run of the dearest calls makes little beside the house itself. */
    private static void room() {
        ThreadMXBean threads = (ThreadMXBean) ManagementFactory.getThreadMXBean();
        long self = Thread.currentThread().getId();
        dearRun();
        long before = threads.getThreadAllocatedBytes(self);
        dearRun();
        long made = threads.getThreadAllocatedBytes(self) - before;
        System.out.println("a dear run makes " + made + " bytes");
        holds("a dear run makes less than 100,000 bytes", made < 100_000);
    }

    private static void dearRun() {
        TapeHouse house = new TapeHouse();
        for (int i = 0; i < 12; i++) {
            house.person(i & 3, 0, 0, 0);
            house.topic(i - 1);
            house.tape(i, 0, 999);
            house.asker(i & 3);
            house.copy(i);
            house.behind(i % 10, (i + 1) % 10, 1);
        }
        for (int i = 0; i < 30; i++) {
            house.piece(0, i, i + 1, 11, i % 12, 15);
        }
        for (int i = 0; i < 40; i++) {
            house.feed(0x6C657420, 0x69662030, 0x3C616765, 0x3B6D6173, 0x6B3B2020);
            house.read(i % 12);
            house.ask(i % 6, i % 30, i % 4, i, 0);
            house.opens(i % 30, 0, 0, 0);
            house.left(12);
            house.when(i % 10, 12, 1);
            house.could(i % 6, i % 12);
            house.seconds(0, i % 6);
        }
    }

    /** Ints of all sizes in all states: no call throws. */
    private static void anyArguments() throws Exception {
        Random random = new Random(7);
        Method[] methods = Arrays.stream(TapeHouse.class.getDeclaredMethods())
            .filter(method -> Modifier.isPublic(method.getModifiers())).toArray(Method[]::new);
        int[] edges = {Integer.MIN_VALUE, Integer.MIN_VALUE + 1, -10000, -2, -1, 0, 1, 2, 5, 9, 11, 12, 15, 16, 29, 30,
            31, 400, 999, 1000, 9999, 10000, Integer.MAX_VALUE - 1, Integer.MAX_VALUE};
        for (int run = 0; run < 300; run++) {
            TapeHouse house = new TapeHouse();
            for (int i = 0; i < 1500; i++) {
                Method method = methods[random.nextInt(methods.length)];
                if (method.getName().equals("opens") && random.nextInt(10) > 0) {
                    continue;
                }
                Object[] values = new Object[method.getParameterCount()];
                for (int k = 0; k < values.length; k++) {
                    values[k] = random.nextInt(3) == 0 ? edges[random.nextInt(edges.length)] : random.nextInt(13) - 1;
                }
                method.invoke(house, values);
            }
        }
        holds("no call threw", true);
    }
}
