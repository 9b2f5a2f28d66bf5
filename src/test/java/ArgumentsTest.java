import java.lang.reflect.InvocationTargetException;
import java.lang.reflect.Method;
import java.util.Arrays;
import java.util.Map;
import java.util.TreeMap;
import java.util.function.Supplier;

/**
 * Every method with every mix of least and greatest arguments and those one beyond them, in houses of several
 * states: the first exception of its throws clause that applies is thrown, or none; and a call that throws
 * changes nothing. Each call is made in a house of its own.
 */
public final class ArgumentsTest {
    private static final String OPERATOR = "operator";
    private static final String FILE = "file";
    private static final String CALL = "call";
    private static final String FLAG = "flag";
    // The greatest month that may be asked for is the month of now.
    private static final int NOW = -1;

    /** One argument: an index of something, a flag, or a number from the least to the greatest. */
    private record Argument(String of, int least, int greatest) {
    }

    private static final Map<String, Argument[]> METHODS = new TreeMap<>(Map.ofEntries(
        method("setTariff", operator(), number(1, 600), number(0, 1000), number(0, 1000)),
        method("charge", operator(), number(1, 36000)),
        method("begin", operator(), operator()),
        method("enter", index(FILE), number(1, 36000), number(0, 50000000)),
        method("send", index(FILE), number(1, 99)),
        method("stateOf", index(FILE)),
        method("expected", operator(), operator()),
        method("lacking", operator(), operator()),
        method("calls"),
        method("call", index(CALL)),
        method("monthOf", index(CALL)),
        method("owedFor", index(CALL)),
        method("dispute", index(CALL)),
        method("answer", index(CALL), index(FLAG)),
        method("agree", operator(), operator(), number(0, 1000000), number(0, 10000), index(FLAG)),
        method("promise", operator(), operator(), number(0, 100000000)),
        method("setRate", operator(), number(1, 100000)),
        method("nextMonth"),
        method("month"),
        method("owed", operator(), operator(), number(0, NOW)),
        method("shortfall", operator(), operator(), number(0, 1)),
        method("net", operator(), number(0, NOW))));

    private final Checks checks;
    private final String scene;
    private final Supplier<RoamingHouse> maker;
    private final int month;
    private final int[] files;
    private final int[] calls;
    private final int[] monthsOfCalls;
    private final String before;

    private ArgumentsTest(Checks checks, String scene, Supplier<RoamingHouse> maker) {
        this.checks = checks;
        this.scene = scene;
        this.maker = maker;
        RoamingHouse like = maker.get();
        month = like.month();
        files = new int[filesOf(like)];
        Arrays.setAll(files, like::stateOf);
        calls = new int[like.calls()];
        Arrays.setAll(calls, like::call);
        monthsOfCalls = new int[calls.length];
        Arrays.setAll(monthsOfCalls, like::monthOf);
        before = Snapshots.of(maker);
    }

    public static void main(String[] args) throws ReflectiveOperationException {
        Checks checks = new Checks();
        checks.due("methods", METHODS.size(), 22);
        Map<String, Supplier<RoamingHouse>> scenes = new TreeMap<>(Map.of(
            "a new house", RoamingHouse::new,
            "a busy house", Houses::busy,
            "a full house", Houses::full,
            "a house in the last month", Houses::old,
            "the last month of year 1", () -> Houses.inMonth(23),
            "the month behind year 1", () -> Houses.inMonth(24)));
        for (Map.Entry<String, Supplier<RoamingHouse>> each : scenes.entrySet()) {
            ArgumentsTest test = new ArgumentsTest(checks, each.getKey(), each.getValue());
            for (String name : METHODS.keySet()) {
                test.callWithAllMixes(name);
            }
        }
        checks.end("ArgumentsTest");
    }

    private static Map.Entry<String, Argument[]> method(String name, Argument... arguments) {
        return Map.entry(name, arguments);
    }

    private static Argument operator() {
        return new Argument(OPERATOR, 0, 3);
    }

    private static Argument index(String of) {
        return new Argument(of, 0, 0);
    }

    private static Argument number(int least, int greatest) {
        return new Argument("number", least, greatest);
    }

    private void callWithAllMixes(String name) throws ReflectiveOperationException {
        Argument[] arguments = METHODS.get(name);
        Object[][] choices = new Object[arguments.length][];
        int mixes = 1;
        for (int i = 0; i < arguments.length; i++) {
            choices[i] = choicesOf(arguments[i]);
            mixes *= choices[i].length;
        }
        for (int mix = 0; mix < mixes; mix++) {
            Object[] drawn = new Object[arguments.length];
            int rest = mix;
            for (int i = 0; i < arguments.length; i++) {
                drawn[i] = choices[i][rest % choices[i].length];
                rest /= choices[i].length;
            }
            callOnce(name, drawn);
        }
    }

    private Object[] choicesOf(Argument argument) {
        if (argument.of.equals(FLAG)) {
            return new Object[] {false, true};
        }
        if (argument.of.equals(FILE) || argument.of.equals(CALL)) {
            return allOf(argument.of.equals(FILE) ? files.length : calls.length);
        }
        int greatest = greatestOf(argument);
        return new Object[] {
            Integer.MIN_VALUE, argument.least - 1, argument.least, greatest, greatest + 1, Integer.MAX_VALUE};
    }

    /** Every index there is, and those beyond. */
    private static Object[] allOf(int count) {
        Object[] all = new Object[count + 4];
        for (int i = 0; i <= count + 1; i++) {
            all[i] = i - 1;
        }
        all[count + 2] = Integer.MIN_VALUE;
        all[count + 3] = Integer.MAX_VALUE;
        return all;
    }

    private int greatestOf(Argument argument) {
        return argument.greatest == NOW ? month : argument.greatest;
    }

    private static int filesOf(RoamingHouse house) {
        for (int file = 0; file < 30; file++) {
            try {
                house.stateOf(file);
            } catch (IndexOutOfBoundsException e) {
                return file;
            }
        }
        return 30;
    }

    private void callOnce(String name, Object[] drawn) throws ReflectiveOperationException {
        String what = name + Arrays.toString(drawn);
        String due = dueOutcome(name, drawn);
        checks.begin(scene);
        checks.due(what, outcome(maker.get(), name, drawn), due);
        if (!due.equals("nothing")) {
            Supplier<RoamingHouse> afterTheCall = () -> afterTheCall(name, drawn);
            checks.due("the state after " + what, Snapshots.of(afterTheCall), before);
        }
    }

    private RoamingHouse afterTheCall(String name, Object[] drawn) {
        RoamingHouse house = maker.get();
        outcome(house, name, drawn);
        return house;
    }

    private static String outcome(RoamingHouse house, String name, Object[] drawn) {
        try {
            methodOf(name).invoke(house, drawn);
            return "nothing";
        } catch (InvocationTargetException e) {
            return e.getCause().getClass().getSimpleName();
        } catch (IllegalAccessException e) {
            return "no access";
        }
    }

    private static Method methodOf(String name) {
        for (Method method : RoamingHouse.class.getMethods()) {
            if (method.getName().equals(name)) {
                return method;
            }
        }
        throw new IllegalStateException("the class has no method " + name);
    }

    private String dueOutcome(String name, Object[] drawn) {
        Argument[] arguments = METHODS.get(name);
        boolean isOutOfBounds = false;
        boolean isIllegalArgument = false;
        for (int i = 0; i < arguments.length; i++) {
            if (!arguments[i].of.equals(FLAG)) {
                boolean isThere = isThere(arguments[i], (Integer) drawn[i]);
                isOutOfBounds |= !isThere && !arguments[i].of.equals("number");
                isIllegalArgument |= !isThere;
            }
        }
        boolean isOfPair = arguments.length > 1 && arguments[1].of.equals(OPERATOR);
        if (isOutOfBounds) {
            return "IndexOutOfBoundsException";
        }
        if (isIllegalArgument || isOfPair && drawn[0].equals(drawn[1])) {
            return "IllegalArgumentException";
        }
        return isIllegalState(name, drawn) ? "IllegalStateException" : "nothing";
    }

    private boolean isThere(Argument argument, int drawn) {
        return switch (argument.of) {
            case FILE -> drawn >= 0 && drawn < files.length;
            case CALL -> drawn >= 0 && drawn < calls.length;
            default -> drawn >= argument.least && drawn <= greatestOf(argument);
        };
    }

    private boolean isIllegalState(String name, Object[] drawn) {
        int first = drawn.length > 0 ? (Integer) drawn[0] : 0;
        return switch (name) {
            case "begin" -> files.length == 30;
            case "enter" -> files[first] != RoamingHouse.DRAFT || calls.length == 60;
            // In the houses here that have files, only file 0 has no calls.
            case "send" -> files[first] != RoamingHouse.DRAFT || first == 0;
            case "dispute" -> calls[first] != RoamingHouse.OWED || month > monthsOfCalls[first] + 1;
            case "answer" -> calls[first] != RoamingHouse.DISPUTED;
            case "nextMonth" -> month == 35;
            case "shortfall" -> month < 12 * ((Integer) drawn[2] + 1);
            default -> false;
        };
    }
}
