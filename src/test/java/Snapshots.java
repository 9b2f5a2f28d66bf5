import java.util.function.Supplier;

/** Writes down all that a house answers, so that two states can be told apart. */
final class Snapshots {
    private Snapshots() {
    }

    /**
     * What houses of one state answer, also those that are changed by it. Each part is asked of a house of its
     * own, as none is promised to answer more than 512 calls.
     */
    static String of(Supplier<RoamingHouse> maker) {
        StringBuilder text = new StringBuilder();
        addCalls(text, maker.get());
        addFiles(text, maker.get());
        for (int operator = 0; operator < 4; operator++) {
            addOperator(text, maker.get(), operator);
            addPairsOf(text, maker.get(), operator);
        }
        addWhatIsToldWhenItIsSet(text, maker.get());
        addWhatMonthsBring(text, maker.get());
        return text.toString();
    }

    private static void addCalls(StringBuilder text, RoamingHouse house) {
        text.append("month ").append(house.month()).append(" calls ").append(house.calls());
        for (int call = 0; call < house.calls(); call++) {
            text.append("\ncall ").append(house.call(call)).append(' ').append(house.monthOf(call));
            text.append(' ').append(house.owedFor(call));
        }
    }

    private static void addFiles(StringBuilder text, RoamingHouse house) {
        text.append("\nfiles");
        for (int file = 0; file < 31; file++) {
            try {
                text.append(' ').append(house.stateOf(file));
            } catch (IndexOutOfBoundsException e) {
                return;
            }
        }
    }

    private static void addOperator(StringBuilder text, RoamingHouse house, int operator) {
        text.append("\noperator ").append(operator);
        for (int seconds : new int[] {1, 59, 60, 61, 599, 600, 601, 36000}) {
            text.append(' ').append(house.charge(operator, seconds));
        }
        for (int month = 0; month <= house.month(); month++) {
            text.append(' ').append(house.net(operator, month));
        }
    }

    private static void addPairsOf(StringBuilder text, RoamingHouse house, int host) {
        for (int home = 0; home < 4; home++) {
            if (home != host) {
                addPair(text, house, host, home);
            }
        }
    }

    private static void addPair(StringBuilder text, RoamingHouse house, int host, int home) {
        text.append("\npair ").append(host).append(' ').append(home);
        text.append(' ').append(house.expected(host, home)).append(' ').append(house.lacking(host, home));
        for (int month = 0; month <= house.month(); month++) {
            text.append(' ').append(house.owed(host, home, month));
        }
        for (int year = 0; year < 2 && house.month() / 12 > year; year++) {
            text.append(" short ").append(house.shortfall(host, home, year));
        }
    }

    private static void addWhatIsToldWhenItIsSet(StringBuilder text, RoamingHouse house) {
        text.append("\nset");
        for (int host = 0; host < 4; host++) {
            text.append(' ').append(house.setTariff(host, 1, 1, 1)).append(' ').append(house.setRate(host, 1));
            for (int home = 0; home < 4; home++) {
                if (home != host) {
                    text.append(' ').append(house.promise(host, home, 0));
                }
            }
        }
    }

    /** The disputes of now and of a month ago end in the next two months, if they are not answered. */
    private static void addWhatMonthsBring(StringBuilder text, RoamingHouse house) {
        text.append("\nmonths");
        for (int passed = 0; passed < 2 && house.month() < 35; passed++) {
            house.nextMonth();
            for (int call = 0; call < house.calls(); call++) {
                text.append(' ').append(house.call(call));
            }
        }
    }
}
