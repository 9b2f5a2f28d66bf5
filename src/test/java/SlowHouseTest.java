import java.lang.reflect.InvocationTargetException;
import java.lang.reflect.Method;
import java.lang.reflect.Modifier;
import java.util.ArrayList;
import java.util.Arrays;
import java.util.List;
import java.util.Map;
import java.util.Random;
import java.util.TreeMap;

/** Long runs of drawn calls, the same ones each time, whose answers are compared with those of SlowHouse. */
public final class SlowHouseTest {
    private static final int RUNS = 400;
    // No house is promised to answer more calls than these.
    private static final int CALLS_OF_A_RUN = 512;
    private static final int QUESTIONS_OF_A_PART = 64;
    private static final int CALLS_OF_A_PART = QUESTIONS_OF_A_PART / 3;
    private static final int[] WRONG = {-1, 0, 4, 30, 60, 1001, 36001, Integer.MIN_VALUE, Integer.MAX_VALUE};
    // A call that stands here more often is drawn more often; asking is left to the whole comparisons, mostly.
    private static final String[] DRAWN = (
        "setTariff charge begin begin begin enter enter enter enter enter enter enter send send send send "
        + "stateOf expected lacking calls call monthOf owedFor dispute dispute dispute answer answer agree agree "
        + "promise setRate nextMonth month owed shortfall net").split(" ");

    private record Drawn(Method fast, Object[] arguments) {
    }

    private final Random random;
    private final List<Drawn> made = new ArrayList<>();
    private final RoamingHouse house = new RoamingHouse();
    private final SlowHouse slow = new SlowHouse();
    private final int operators;
    private final int pace;
    private String last = "";

    private SlowHouseTest(int seed) {
        random = new Random(seed);
        // With two operators a pair gets many files and calls; at a slow pace, each month does.
        operators = 2 + seed % 3;
        pace = seed / 3 % 3;
    }

    public static void main(String[] args) throws ReflectiveOperationException {
        Checks checks = new Checks();
        Map<String, Method[]> methods = new TreeMap<>();
        for (Method method : SlowHouse.class.getDeclaredMethods()) {
            String name = method.getName();
            if (Modifier.isPublic(method.getModifiers())) {
                Method fast = RoamingHouse.class.getMethod(name, method.getParameterTypes());
                methods.put(name, new Method[] {fast, method});
            }
        }
        checks.due("methods", methods.size(), 22);
        for (int seed = 0; seed < RUNS; seed++) {
            checks.begin("run " + seed);
            new SlowHouseTest(seed).run(checks, methods);
        }
        checks.end("SlowHouseTest");
    }

    private void run(Checks checks, Map<String, Method[]> methods) throws ReflectiveOperationException {
        for (int i = 0; i < CALLS_OF_A_RUN; i++) {
            String name = drawnName();
            Method[] both = methods.get(name);
            Object[] arguments = arguments(name);
            String got = answer(both[0], house, arguments);
            String want = answer(both[1], slow, arguments);
            made.add(new Drawn(both[0], arguments));
            last = "call " + i + " " + name + Arrays.toString(arguments);
            checks.due(last, got, want);
            if (!got.equals(want)) {
                return;
            }
            if (i % 64 == 63 && made.size() + QUESTIONS_OF_A_PART <= CALLS_OF_A_RUN) {
                compareAll(checks);
            }
        }
    }

    private String drawnName() {
        String name = DRAWN[random.nextInt(DRAWN.length)];
        boolean isTooSoon = name.equals("nextMonth") && pace == 0 && random.nextInt(3) > 0;
        boolean isTooLate = pace == 2 && random.nextInt(16) == 0;
        return isTooSoon ? "month" : isTooLate ? "nextMonth" : name;
    }

    /** Each part is asked of a house for which the run is made once more, so that it has calls left to answer. */
    private void compareAll(Checks checks) throws IllegalAccessException {
        checks.due("calls after " + last, madeOnceMore().calls(), slow.calls());
        for (int first = 0; first < slow.calls(); first += CALLS_OF_A_PART) {
            compareCalls(checks, madeOnceMore(), first);
        }
        for (int host = 0; host < operators; host++) {
            compareOperator(checks, madeOnceMore(), host);
            for (int home = 0; home < operators; home++) {
                if (home != host) {
                    comparePair(checks, madeOnceMore(), host, home);
                }
            }
        }
    }

    private RoamingHouse madeOnceMore() throws IllegalAccessException {
        RoamingHouse another = new RoamingHouse();
        for (Drawn each : made) {
            answer(each.fast, another, each.arguments);
        }
        return another;
    }

    private void compareCalls(Checks checks, RoamingHouse another, int first) {
        for (int call = first; call < first + CALLS_OF_A_PART && call < slow.calls(); call++) {
            checks.due("call " + call + " after " + last, another.call(call), slow.call(call));
            checks.due("monthOf " + call + " after " + last, another.monthOf(call), slow.monthOf(call));
            checks.due("owedFor " + call + " after " + last, another.owedFor(call), slow.owedFor(call));
        }
    }

    private void compareOperator(Checks checks, RoamingHouse another, int operator) {
        String of = " of " + operator + " after " + last;
        checks.due("charge" + of, another.charge(operator, 601), slow.charge(operator, 601));
        for (int month = 0; month <= slow.month(); month++) {
            checks.due("net" + of, another.net(operator, month), slow.net(operator, month));
        }
    }

    private void comparePair(Checks checks, RoamingHouse another, int host, int home) {
        String of = " of " + host + ", " + home + " after " + last;
        checks.due("expected" + of, another.expected(host, home), slow.expected(host, home));
        checks.due("lacking" + of, another.lacking(host, home), slow.lacking(host, home));
        for (int month = 0; month <= slow.month(); month++) {
            checks.due("owed" + of, another.owed(host, home, month), slow.owed(host, home, month));
        }
        for (int year = 0; year < 2 && slow.month() / 12 > year; year++) {
            checks.due("shortfall" + of, another.shortfall(host, home, year), slow.shortfall(host, home, year));
        }
    }

    private static String answer(Method method, Object of, Object[] arguments) throws IllegalAccessException {
        try {
            return String.valueOf(method.invoke(of, arguments));
        } catch (InvocationTargetException e) {
            return "throws." + e.getCause().getClass().getSimpleName();
        }
    }

    private Object[] arguments(String name) {
        Object[] drawn = fittingArguments(name);
        if (random.nextInt(12) == 0) {
            for (int i = 0; i < drawn.length; i++) {
                if (drawn[i] instanceof Integer && random.nextInt(drawn.length) == 0) {
                    drawn[i] = WRONG[random.nextInt(WRONG.length)];
                }
            }
        }
        return drawn;
    }

    private Object[] fittingArguments(String name) {
        int host = random.nextInt(operators);
        int home = (host + 1 + random.nextInt(operators - 1)) % operators;
        int month = random.nextInt(slow.month() + 1);
        return switch (name) {
            case "setTariff" -> new Object[] {host, oneOf(1, 7, 30, 60, 60, 60, 600), oneOf(0, 3, 10, 10, 10, 1000),
                oneOf(0, 0, 0, 13, 1000)};
            case "charge" -> new Object[] {host, seconds()};
            case "begin", "expected", "lacking" -> new Object[] {host, home};
            case "enter" -> callToEnter();
            case "send" -> fileToSend();
            case "stateOf" -> new Object[] {random.nextInt(30)};
            case "call", "monthOf", "owedFor", "dispute" -> new Object[] {random.nextInt(slow.calls() + 1)};
            case "answer" -> new Object[] {disputedCall(), random.nextBoolean()};
            case "agree" -> new Object[] {host, home, oneOf(0, 60, 600, 2000, 5000, 40000, 1000000),
                oneOf(0, 1, 333, 2500, 9999, 10000), random.nextBoolean()};
            case "promise" -> new Object[] {host, home, oneOf(0, 50, 500, 5000, 100000000)};
            case "setRate" -> new Object[] {host, oneOf(1, 333, 1000, 1999, 100000)};
            case "owed" -> new Object[] {host, home, month};
            case "shortfall" -> new Object[] {host, home, random.nextInt(2)};
            case "net" -> new Object[] {host, month};
            default -> new Object[0];
        };
    }

    private Object[] callToEnter() {
        int seconds = seconds();
        if (slow.files() == 0) {
            return new Object[] {0, seconds, 10};
        }
        int file = draft();
        int more = random.nextInt(5) == 0 ? oneOf(1, 2, 10) : 0;
        return new Object[] {file, seconds, slow.charge(slow.hostOf(file), seconds) + more};
    }

    private Object[] fileToSend() {
        if (slow.files() == 0) {
            return new Object[] {0, 1};
        }
        int file = draft();
        int expected = slow.expected(slow.hostOf(file), slow.homeOf(file));
        return new Object[] {file, Math.max(1, expected + oneOf(-1, 0, 0, 0, 0, 1, 1, 2, 3))};
    }

    /** A file that is there, and mostly a draft. */
    private int draft() {
        int file = random.nextInt(slow.files());
        for (int tries = 0; tries < 6 && slow.stateOf(file) != RoamingHouse.DRAFT; tries++) {
            file = random.nextInt(slow.files());
        }
        return file;
    }

    private int disputedCall() {
        int call = random.nextInt(slow.calls() + 1);
        for (int tries = 0; tries < 6 && call < slow.calls(); tries++) {
            if (slow.call(call) == RoamingHouse.DISPUTED) {
                return call;
            }
            call = random.nextInt(slow.calls() + 1);
        }
        return call;
    }

    private int seconds() {
        return oneOf(1, 59, 60, 61, 120, 600, 1800, 36000);
    }

    private int oneOf(int... choices) {
        return choices[random.nextInt(choices.length)];
    }
}
