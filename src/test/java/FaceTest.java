import java.io.IOException;
import java.lang.reflect.Constructor;
import java.lang.reflect.Executable;
import java.lang.reflect.Field;
import java.lang.reflect.Method;
import java.lang.reflect.Modifier;
import java.nio.file.Files;
import java.nio.file.Path;
import java.util.Map;
import java.util.Set;
import java.util.TreeMap;
import java.util.TreeSet;

/** The public face, as the document has it, and nothing beside it. */
public final class FaceTest {
    private static final String[] METHODS = {
        "int setTariff(int,int,int,int) throws Bounds,Argument",
        "int charge(int,int) throws Bounds,Argument",
        "int begin(int,int) throws Bounds,Argument,State",
        "int enter(int,int,int) throws Bounds,Argument,State",
        "int send(int,int) throws Bounds,Argument,State",
        "int stateOf(int) throws Bounds",
        "int expected(int,int) throws Bounds,Argument",
        "int lacking(int,int) throws Bounds,Argument",
        "int calls() throws ",
        "int call(int) throws Bounds",
        "int monthOf(int) throws Bounds",
        "int owedFor(int) throws Bounds",
        "void dispute(int) throws Bounds,State",
        "void answer(int,boolean) throws Bounds,State",
        "void agree(int,int,int,int,boolean) throws Bounds,Argument",
        "int promise(int,int,int) throws Bounds,Argument",
        "int setRate(int,int) throws Bounds,Argument",
        "int nextMonth() throws State",
        "int month() throws ",
        "long owed(int,int,int) throws Bounds,Argument",
        "long shortfall(int,int,int) throws Bounds,Argument,State",
        "long net(int,int) throws Bounds,Argument",
    };
    private static final Map<String, Integer> CONSTANTS = new TreeMap<>(Map.ofEntries(
        Map.entry("NONE", -1), Map.entry("DRAFT", 0), Map.entry("DOUBLE", 1), Map.entry("WAITS", 2),
        Map.entry("LATE", 3), Map.entry("BAD", 4), Map.entry("ACCEPTED", 5), Map.entry("OUTSIDE", 0),
        Map.entry("OWED", 1), Map.entry("DISPUTED", 2), Map.entry("UPHELD", 3), Map.entry("BACK", 4)));
    private static final Map<String, String> SHORT = Map.of(
        "java.lang.IndexOutOfBoundsException", "Bounds",
        "java.lang.IllegalArgumentException", "Argument",
        "java.lang.IllegalStateException", "State");

    // As the document writes it down, with the headings that it wants ahead of some methods.
    private static final String WRITTEN = """
        public final class RoamingHouse {
        public static final int NONE = -1;
        public static final int DRAFT = 0, DOUBLE = 1, WAITS = 2, LATE = 3, BAD = 4, ACCEPTED = 5;
        public static final int OUTSIDE = 0, OWED = 1, DISPUTED = 2, UPHELD = 3, BACK = 4;
        public RoamingHouse()
        // ---- tariffs and files
        public int setTariff(int host, int step, int price, int beginning) \
        throws IndexOutOfBoundsException, IllegalArgumentException
        public int charge(int host, int seconds) throws IndexOutOfBoundsException, IllegalArgumentException
        public int begin(int host, int home) \
        throws IndexOutOfBoundsException, IllegalArgumentException, IllegalStateException
        public int enter(int file, int seconds, int told) \
        throws IndexOutOfBoundsException, IllegalArgumentException, IllegalStateException
        public int send(int file, int number) \
        throws IndexOutOfBoundsException, IllegalArgumentException, IllegalStateException
        public int stateOf(int file) throws IndexOutOfBoundsException
        public int expected(int host, int home) throws IndexOutOfBoundsException, IllegalArgumentException
        public int lacking(int host, int home) throws IndexOutOfBoundsException, IllegalArgumentException
        // ---- calls and disputes
        public int calls()
        public int call(int call) throws IndexOutOfBoundsException
        public int monthOf(int call) throws IndexOutOfBoundsException
        public int owedFor(int call) throws IndexOutOfBoundsException
        public void dispute(int call) throws IndexOutOfBoundsException, IllegalStateException
        public void answer(int call, boolean isUpheld) throws IndexOutOfBoundsException, IllegalStateException
        // ---- agreements, promises and months
        public void agree(int host, int home, int volume, int rate, boolean isBack) \
        throws IndexOutOfBoundsException, IllegalArgumentException
        public int promise(int host, int home, int promise) \
        throws IndexOutOfBoundsException, IllegalArgumentException
        public int setRate(int operator, int rate) throws IndexOutOfBoundsException, IllegalArgumentException
        public int nextMonth() throws IllegalStateException
        public int month()
        // ---- what is owed
        public long owed(int host, int home, int month) throws IndexOutOfBoundsException, IllegalArgumentException
        public long shortfall(int host, int home, int year) \
        throws IndexOutOfBoundsException, IllegalArgumentException, IllegalStateException
        public long net(int operator, int month) throws IndexOutOfBoundsException, IllegalArgumentException
        """;

    public static void main(String[] args) throws IllegalAccessException, IOException {
        Checks checks = new Checks();
        checks.begin("face");
        int ofClass = RoamingHouse.class.getModifiers();
        checks.isTrue("public and final", Modifier.isPublic(ofClass) && Modifier.isFinal(ofClass));
        checks.due("methods", visibleMethods().toString(), new TreeSet<>(Set.of(METHODS)).toString());
        checks.due("constants", visibleConstants().toString(), CONSTANTS.toString());
        Constructor<?>[] constructors = RoamingHouse.class.getDeclaredConstructors();
        checks.due("constructors", constructors.length, 1);
        checks.due("constructor", parameters(constructors[0]), "()");
        checks.isTrue("public constructor", Modifier.isPublic(constructors[0].getModifiers()));
        checks.due("private methods with a public one's name", String.valueOf(doubleNames()), "[]");
        standsAsWritten(checks);
        checks.end("FaceTest");
    }

    private static void standsAsWritten(Checks checks) throws IOException {
        String source = Files.readString(Path.of("src/main/java/RoamingHouse.java")).replaceAll("\\s+", " ");
        int behindTheLast = 0;
        for (String line : WRITTEN.lines().toList()) {
            boolean isMethod = line.endsWith(")") || line.contains(" throws ");
            int at = source.indexOf(isMethod ? line + " {" : line, behindTheLast);
            checks.isTrue("in its place: " + line, at >= 0);
            behindTheLast = Math.max(behindTheLast, at + line.length());
        }
    }

    private static Set<String> visibleMethods() {
        Set<String> methods = new TreeSet<>();
        for (Method method : RoamingHouse.class.getDeclaredMethods()) {
            int flags = method.getModifiers();
            if (!Modifier.isPrivate(flags)) {
                boolean isPlain = Modifier.isPublic(flags) && !Modifier.isStatic(flags);
                String odd = isPlain ? "" : Modifier.toString(flags) + " ";
                methods.add(odd + method.getReturnType() + " " + method.getName() + parameters(method)
                    + " throws " + thrown(method));
            }
        }
        return methods;
    }

    private static Map<String, Integer> visibleConstants() throws IllegalAccessException {
        Map<String, Integer> constants = new TreeMap<>();
        for (Field field : RoamingHouse.class.getDeclaredFields()) {
            int flags = field.getModifiers();
            boolean isConstant = Modifier.isPublic(flags) && Modifier.isStatic(flags) && Modifier.isFinal(flags);
            if (!Modifier.isPrivate(flags)) {
                constants.put(field.getName(), isConstant ? field.getInt(null) : Integer.MIN_VALUE);
            }
        }
        return constants;
    }

    private static Set<String> doubleNames() {
        Set<String> publicNames = new TreeSet<>();
        for (Method method : RoamingHouse.class.getMethods()) {
            publicNames.add(method.getName());
        }
        Set<String> twice = new TreeSet<>();
        for (Method method : RoamingHouse.class.getDeclaredMethods()) {
            if (Modifier.isPrivate(method.getModifiers()) && publicNames.contains(method.getName())) {
                twice.add(method.getName());
            }
        }
        return twice;
    }

    private static String parameters(Executable executable) {
        StringBuilder text = new StringBuilder("(");
        for (Class<?> type : executable.getParameterTypes()) {
            text.append(text.length() > 1 ? "," : "").append(type.getName());
        }
        return text.append(")").toString();
    }

    private static String thrown(Method method) {
        StringBuilder text = new StringBuilder();
        for (Class<?> type : method.getExceptionTypes()) {
            text.append(text.length() > 0 ? "," : "").append(SHORT.getOrDefault(type.getName(), type.getName()));
        }
        return text.toString();
    }
}
