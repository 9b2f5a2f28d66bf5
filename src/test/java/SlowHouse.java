import java.util.ArrayList;
import java.util.List;

/**
 * The document once more, in another and slower form: the class is compared with it. What is discounted is
 * found anew at each question, by going through the calls in the order in which they were accepted.
 */
public final class SlowHouse {
    private static final class SentFile {
        int host;
        int home;
        int month;
        int number;
        int state = RoamingHouse.DRAFT;
        final List<Integer> calls = new ArrayList<>();
    }

    private static final class OneCall {
        SentFile file;
        int seconds;
        int told;
        int state = RoamingHouse.OUTSIDE;
        int month = RoamingHouse.NONE;
        int disputed;
    }

    private final int[] step = {60, 60, 60, 60};
    private final int[] price = {10, 10, 10, 10};
    private final int[] beginning = new int[4];
    private final int[] rate = {1000, 1000, 1000, 1000};
    private final int[][] expected = {{1, 1, 1, 1}, {1, 1, 1, 1}, {1, 1, 1, 1}, {1, 1, 1, 1}};
    private final int[][] promise = new int[4][4];
    private final int[][][] agreement = new int[4][4][];
    private final List<SentFile> files = new ArrayList<>();
    private final List<OneCall> calls = new ArrayList<>();
    private final List<OneCall> accepted = new ArrayList<>();
    private int month = 0;

    public int setTariff(int host, int newStep, int newPrice, int newBeginning) {
        bounds(host, 4);
        argument(newStep >= 1 && newStep <= 600);
        argument(newPrice >= 0 && newPrice <= 1000);
        argument(newBeginning >= 0 && newBeginning <= 1000);
        int before = price[host];
        step[host] = newStep;
        price[host] = newPrice;
        beginning[host] = newBeginning;
        return before;
    }

    public int charge(int host, int seconds) {
        bounds(host, 4);
        argument(seconds >= 1 && seconds <= 36000);
        int steps = 0;
        for (int rated = 0; rated < seconds; rated += step[host]) {
            steps++;
        }
        return beginning[host] + steps * price[host];
    }

    public int begin(int host, int home) {
        pair(host, home);
        state(files.size() < 30);
        SentFile file = new SentFile();
        file.host = host;
        file.home = home;
        file.month = month;
        files.add(file);
        return files.size() - 1;
    }

    public int enter(int file, int seconds, int told) {
        bounds(file, files.size());
        argument(seconds >= 1 && seconds <= 36000);
        argument(told >= 0 && told <= 50000000);
        state(files.get(file).state == RoamingHouse.DRAFT);
        state(calls.size() < 60);
        OneCall call = new OneCall();
        call.file = files.get(file);
        call.seconds = seconds;
        call.told = told;
        call.file.calls.add(calls.size());
        calls.add(call);
        return calls.size() - 1;
    }

    public int send(int file, int number) {
        bounds(file, files.size());
        argument(number >= 1 && number <= 99);
        SentFile sent = files.get(file);
        state(sent.state == RoamingHouse.DRAFT && !sent.calls.isEmpty());
        int host = sent.host;
        int home = sent.home;
        sent.number = number;
        if (number < expected[host][home] || waits(host, home, number) >= 0) {
            sent.state = RoamingHouse.DOUBLE;
            return sent.state;
        }
        sent.state = RoamingHouse.WAITS;
        while (waits(host, home, expected[host][home]) >= 0) {
            lookAt(files.get(waits(host, home, expected[host][home])));
            expected[host][home]++;
        }
        return sent.state;
    }

    public int stateOf(int file) {
        bounds(file, files.size());
        return files.get(file).state;
    }

    public int expected(int host, int home) {
        pair(host, home);
        return expected[host][home];
    }

    public int lacking(int host, int home) {
        pair(host, home);
        int lacking = 0;
        int sinceLast = 0;
        for (int number = expected[host][home]; number <= 99; number++) {
            sinceLast++;
            if (waits(host, home, number) >= 0) {
                lacking += sinceLast - 1;
                sinceLast = 0;
            }
        }
        return lacking;
    }

    public int calls() {
        return calls.size();
    }

    public int call(int call) {
        bounds(call, calls.size());
        return calls.get(call).state;
    }

    public int monthOf(int call) {
        bounds(call, calls.size());
        return calls.get(call).month;
    }

    public int owedFor(int call) {
        bounds(call, calls.size());
        OneCall asked = calls.get(call);
        if (asked.state == RoamingHouse.OUTSIDE || asked.state == RoamingHouse.BACK) {
            return 0;
        }
        int[] agreed = agreement[asked.file.host][asked.file.home];
        if (agreed == null || !isDiscounted(asked, agreed)) {
            return asked.told;
        }
        return (int) (asked.told - Math.floorDiv((long) asked.told * agreed[1], 10000L));
    }

    public void dispute(int call) {
        bounds(call, calls.size());
        OneCall disputed = calls.get(call);
        state(disputed.state == RoamingHouse.OWED);
        state(month == disputed.month || month == disputed.month + 1);
        disputed.state = RoamingHouse.DISPUTED;
        disputed.disputed = month;
    }

    public void answer(int call, boolean isUpheld) {
        bounds(call, calls.size());
        state(calls.get(call).state == RoamingHouse.DISPUTED);
        calls.get(call).state = isUpheld ? RoamingHouse.UPHELD : RoamingHouse.BACK;
    }

    public void agree(int host, int home, int volume, int newRate, boolean isBack) {
        pair(host, home);
        argument(volume >= 0 && volume <= 1000000);
        argument(newRate >= 0 && newRate <= 10000);
        agreement[host][home] = new int[] {volume, newRate, isBack ? 1 : 0};
    }

    public int promise(int host, int home, int newPromise) {
        pair(host, home);
        argument(newPromise >= 0 && newPromise <= 100000000);
        int before = promise[host][home];
        promise[host][home] = newPromise;
        return before;
    }

    public int setRate(int operator, int newRate) {
        bounds(operator, 4);
        argument(newRate >= 1 && newRate <= 100000);
        int before = rate[operator];
        rate[operator] = newRate;
        return before;
    }

    public int nextMonth() {
        state(month < 35);
        month++;
        for (OneCall call : calls) {
            if (call.state == RoamingHouse.DISPUTED && month == call.disputed + 2) {
                call.state = RoamingHouse.BACK;
            }
        }
        return month;
    }

    public int month() {
        return month;
    }

    public long owed(int host, int home, int asked) {
        pair(host, home);
        argument(asked >= 0 && asked <= month);
        long sum = 0;
        for (int call = 0; call < calls.size(); call++) {
            OneCall one = calls.get(call);
            if (one.file.host == host && one.file.home == home && one.month == asked) {
                sum += owedFor(call);
            }
        }
        return sum;
    }

    public long shortfall(int host, int home, int year) {
        pair(host, home);
        argument(year == 0 || year == 1);
        state(month >= 12 * (year + 1));
        long left = promise[host][home];
        for (int of = 12 * year; of < 12 * (year + 1); of++) {
            left -= owed(host, home, of);
        }
        return left > 0 ? left : 0;
    }

    public long net(int operator, int asked) {
        bounds(operator, 4);
        argument(asked >= 0 && asked <= month);
        long net = 0;
        for (int host = 0; host < 4; host++) {
            for (int home = 0; home < 4; home++) {
                long units = host == home ? 0 : Math.floorDiv(owed(host, home, asked) * rate[host], 1000L);
                net += host == operator ? units : 0;
                net -= home == operator ? units : 0;
            }
        }
        return net;
    }

    // ---- what the face does not tell, for drawing calls that fit

    int files() {
        return files.size();
    }

    int hostOf(int file) {
        return files.get(file).host;
    }

    int homeOf(int file) {
        return files.get(file).home;
    }

    // ---- what the calls above are made of

    private void lookAt(SentFile file) {
        int wrong = 0;
        for (int call : file.calls) {
            wrong += calls.get(call).told == charge(file.host, calls.get(call).seconds) ? 0 : 1;
        }
        if (month > file.month + 2) {
            file.state = RoamingHouse.LATE;
        } else if (wrong * 3 > file.calls.size()) {
            file.state = RoamingHouse.BAD;
        } else {
            file.state = RoamingHouse.ACCEPTED;
            for (int number : file.calls) {
                OneCall call = calls.get(number);
                if (call.told == charge(file.host, call.seconds)) {
                    call.state = RoamingHouse.OWED;
                    call.month = month;
                    accepted.add(call);
                }
            }
        }
    }

    private boolean isDiscounted(OneCall asked, int[] agreed) {
        int seconds = 0;
        for (OneCall call : accepted) {
            if (call == asked && agreed[2] == 0) {
                break;
            }
            boolean isOfPair = call.file.host == asked.file.host && call.file.home == asked.file.home;
            if (isOfPair && call.month / 12 == asked.month / 12) {
                seconds += call.seconds;
            }
        }
        return seconds >= agreed[0];
    }

    private int waits(int host, int home, int number) {
        for (int i = 0; i < files.size(); i++) {
            SentFile file = files.get(i);
            if (file.state == RoamingHouse.WAITS && file.host == host && file.home == home && file.number == number) {
                return i;
            }
        }
        return -1;
    }

    private static void pair(int host, int home) {
        bounds(host, 4);
        bounds(home, 4);
        argument(host != home);
    }

    private static void bounds(int index, int count) {
        if (index < 0 || index >= count) {
            throw new IndexOutOfBoundsException();
        }
    }

    private static void argument(boolean isInRange) {
        if (!isInRange) {
            throw new IllegalArgumentException();
        }
    }

    private static void state(boolean isAllowed) {
        if (!isAllowed) {
            throw new IllegalStateException();
        }
    }
}
