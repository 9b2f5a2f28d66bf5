/** Writes down all that an object answers without being changed, so that two states can be told apart. */
final class Snapshots {
    private Snapshots() {
    }

    static String of(RoamingHouse house) {
        StringBuilder text = new StringBuilder();
        text.append("month ").append(house.month()).append(" calls ").append(house.calls());
        for (int call = 0; call < house.calls(); call++) {
            text.append("\ncall ").append(house.call(call)).append(' ').append(house.monthOf(call));
            text.append(' ').append(house.owedFor(call));
        }
        addFiles(text, house);
        for (int host = 0; host < 4; host++) {
            addOperator(text, house, host);
            for (int home = 0; home < 4; home++) {
                if (home != host) {
                    addPair(text, house, host, home);
                }
            }
        }
        return text.toString();
    }

    private static void addFiles(StringBuilder text, RoamingHouse house) {
        text.append("\nfiles");
        for (int file = 0; file < 31; file++) {
            try {
                text.append(' ').append(house.stateOf(file));
            } catch (IndexOutOfBoundsException e) {
                return;
            }
        }
    }

    private static void addOperator(StringBuilder text, RoamingHouse house, int operator) {
        text.append("\noperator ").append(operator);
        for (int seconds : new int[] {1, 59, 60, 61, 599, 600, 601, 36000}) {
            text.append(' ').append(house.charge(operator, seconds));
        }
        for (int month = 0; month <= house.month(); month++) {
            text.append(' ').append(house.net(operator, month));
        }
    }

    private static void addPair(StringBuilder text, RoamingHouse house, int host, int home) {
        text.append("\npair ").append(host).append(' ').append(home);
        text.append(' ').append(house.expected(host, home)).append(' ').append(house.lacking(host, home));
        for (int month = 0; month <= house.month(); month++) {
            text.append(' ').append(house.owed(host, home, month));
        }
        for (int year = 0; year < 2 && house.month() / 12 > year; year++) {
            text.append(" short ").append(house.shortfall(host, home, year));
        }
    }
}
