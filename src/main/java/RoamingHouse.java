public final class RoamingHouse {
    public static final int NONE = -1;
    public static final int DRAFT = 0, DOUBLE = 1, WAITS = 2, LATE = 3, BAD = 4, ACCEPTED = 5;
    public static final int OUTSIDE = 0, OWED = 1, DISPUTED = 2, UPHELD = 3, BACK = 4;

    private static final int OPERATORS = 4;
    private static final int MOST_FILES = 30;
    private static final int MOST_CALLS = 60;
    private static final int MOST_NUMBER = 99;
    private static final int LAST_MONTH = 35;
    private static final int MONTHS_OF_A_YEAR = 12;
    private static final int YEARS = 3;
    private static final int LAST_YEAR_THAT_ENDS = 1;
    private static final int MONTHS_UNTIL_LATE = 2;
    private static final int MONTHS_TO_DISPUTE = 1;
    private static final int MONTHS_TO_ANSWER = 2;

    private static final int MOST_STEP = 600;
    private static final int MOST_PRICE = 1000;
    private static final int MOST_BEGINNING = 1000;
    private static final int MOST_SECONDS = 36000;
    private static final int MOST_TOLD = 50000000;
    private static final int MOST_VOLUME = 1000000;
    private static final int MOST_PROMISE = 100000000;
    private static final int MOST_UNIT_RATE = 100000;
    private static final int WHOLE_DISCOUNT = 10000;
    private static final int WHOLE_UNIT = 1000;

    private final Operator[] operators = new Operator[OPERATORS];
    private final Pair[] pairs = new Pair[OPERATORS * OPERATORS];
    private final CallFile[] fileRows = new CallFile[MOST_FILES];
    private int fileCount = 0;
    private final Call[] callRows = new Call[MOST_CALLS];
    private int callCount = 0;
    private int now = 0;

    public RoamingHouse() {
        for (int host = 0; host < OPERATORS; host++) {
            operators[host] = new Operator();
            // An operator with itself is no pair; its row stands unused, so that no row is null.
            for (int home = 0; home < OPERATORS; home++) {
                pairs[host * OPERATORS + home] = new Pair(operators[host]);
            }
        }
    }

    // ---- tariffs and files

    public int setTariff(int host, int step, int price, int beginning)
            throws IndexOutOfBoundsException, IllegalArgumentException {
        Operator changed = operatorAt(host);
        refuseOutside(step, 1, MOST_STEP);
        refuseOutside(price, 0, MOST_PRICE);
        refuseOutside(beginning, 0, MOST_BEGINNING);
        int before = changed.price;
        changed.step = step;
        changed.price = price;
        changed.beginning = beginning;
        return before;
    }

    public int charge(int host, int seconds) throws IndexOutOfBoundsException, IllegalArgumentException {
        Operator rating = operatorAt(host);
        refuseOutside(seconds, 1, MOST_SECONDS);
        return rating.chargeFor(seconds);
    }

    public int begin(int host, int home)
            throws IndexOutOfBoundsException, IllegalArgumentException, IllegalStateException {
        Pair pair = pairAt(host, home);
        if (fileCount >= MOST_FILES) {
            throw new IllegalStateException("there are 30 files");
        }
        int file = fileCount;
        fileRows[file] = new CallFile(pair, now);
        fileCount++;
        return file;
    }

    public int enter(int file, int seconds, int told)
            throws IndexOutOfBoundsException, IllegalArgumentException, IllegalStateException {
        CallFile holder = fileAt(file);
        refuseOutside(seconds, 1, MOST_SECONDS);
        refuseOutside(told, 0, MOST_TOLD);
        if (holder.state != DRAFT) {
            throw new IllegalStateException("the file is not a draft");
        }
        if (callCount >= MOST_CALLS) {
            throw new IllegalStateException("there are 60 calls");
        }
        int call = callCount;
        callRows[call] = new Call(holder, seconds, told);
        callCount++;
        holder.size++;
        return call;
    }

    public int send(int file, int number)
            throws IndexOutOfBoundsException, IllegalArgumentException, IllegalStateException {
        CallFile sent = fileAt(file);
        refuseOutside(number, 1, MOST_NUMBER);
        if (sent.state != DRAFT || sent.size == 0) {
            throw new IllegalStateException("the file is not a draft, or has no calls");
        }
        Pair pair = sent.pair;
        if (number < pair.expectedNumber || waitingFile(pair, number) != null) {
            sent.state = DOUBLE;
        } else if (number > pair.expectedNumber) {
            sent.number = number;
            sent.state = WAITS;
        } else {
            lookAtAllFrom(sent);
        }
        return sent.state;
    }

    public int stateOf(int file) throws IndexOutOfBoundsException {
        return fileAt(file).state;
    }

    public int expected(int host, int home) throws IndexOutOfBoundsException, IllegalArgumentException {
        return pairAt(host, home).expectedNumber;
    }

    public int lacking(int host, int home) throws IndexOutOfBoundsException, IllegalArgumentException {
        Pair pair = pairAt(host, home);
        int waiting = 0;
        int greatest = 0;
        for (int i = 0; i < fileCount; i++) {
            CallFile file = fileRows[i];
            if (file.pair == pair && file.state == WAITS) {
                waiting++;
                greatest = Math.max(greatest, file.number);
            }
        }
        // No two files of a pair wait with one number, and none with one below the expected one.
        return waiting == 0 ? 0 : greatest - pair.expectedNumber + 1 - waiting;
    }

    // ---- calls and disputes

    public int calls() {
        return callCount;
    }

    public int call(int call) throws IndexOutOfBoundsException {
        return callAt(call).state;
    }

    public int monthOf(int call) throws IndexOutOfBoundsException {
        return callAt(call).acceptedIn;
    }

    public int owedFor(int call) throws IndexOutOfBoundsException {
        return callAt(call).amount();
    }

    public void dispute(int call) throws IndexOutOfBoundsException, IllegalStateException {
        Call disputed = callAt(call);
        if (disputed.state != OWED) {
            throw new IllegalStateException("the call is not owed");
        }
        if (now - disputed.acceptedIn > MONTHS_TO_DISPUTE) {
            throw new IllegalStateException("the call was accepted more than a month ago");
        }
        disputed.state = DISPUTED;
        disputed.disputedIn = now;
    }

    public void answer(int call, boolean isUpheld) throws IndexOutOfBoundsException, IllegalStateException {
        Call answered = callAt(call);
        if (answered.state != DISPUTED) {
            throw new IllegalStateException("the call is not in dispute");
        }
        answered.state = isUpheld ? UPHELD : BACK;
    }

    // ---- agreements, promises and months

    public void agree(int host, int home, int volume, int rate, boolean isBack)
            throws IndexOutOfBoundsException, IllegalArgumentException {
        Pair pair = pairAt(host, home);
        refuseOutside(volume, 0, MOST_VOLUME);
        refuseOutside(rate, 0, WHOLE_DISCOUNT);
        pair.volume = volume;
        pair.discountRate = rate;
        pair.goesBack = isBack;
    }

    public int promise(int host, int home, int promise)
            throws IndexOutOfBoundsException, IllegalArgumentException {
        Pair pair = pairAt(host, home);
        refuseOutside(promise, 0, MOST_PROMISE);
        int before = pair.promised;
        pair.promised = promise;
        return before;
    }

    public int setRate(int operator, int rate) throws IndexOutOfBoundsException, IllegalArgumentException {
        Operator changed = operatorAt(operator);
        refuseOutside(rate, 1, MOST_UNIT_RATE);
        int before = changed.unitRate;
        changed.unitRate = rate;
        return before;
    }

    public int nextMonth() throws IllegalStateException {
        if (now >= LAST_MONTH) {
            throw new IllegalStateException("it is the last month");
        }
        now++;
        giveBackUnanswered();
        return now;
    }

    public int month() {
        return now;
    }

    // ---- what is owed

    public long owed(int host, int home, int month) throws IndexOutOfBoundsException, IllegalArgumentException {
        Pair pair = pairAt(host, home);
        refuseOutside(month, 0, now);
        return amountOfMonths(pair, month, month);
    }

    public long shortfall(int host, int home, int year)
            throws IndexOutOfBoundsException, IllegalArgumentException, IllegalStateException {
        Pair pair = pairAt(host, home);
        refuseOutside(year, 0, LAST_YEAR_THAT_ENDS);
        if (yearOf(now) <= year) {
            throw new IllegalStateException("the year is not over");
        }
        int first = year * MONTHS_OF_A_YEAR;
        return Math.max(0L, pair.promised - amountOfMonths(pair, first, first + MONTHS_OF_A_YEAR - 1));
    }

    public long net(int operator, int month) throws IndexOutOfBoundsException, IllegalArgumentException {
        operatorAt(operator);
        refuseOutside(month, 0, now);
        long units = 0;
        for (int other = 0; other < OPERATORS; other++) {
            if (other != operator) {
                units += unitsOfMonth(pairs[operator * OPERATORS + other], month);
                units -= unitsOfMonth(pairs[other * OPERATORS + operator], month);
            }
        }
        return units;
    }

    // ---- what the calls above are made of

    private static boolean isOperator(int operator) {
        return operator >= 0 && operator < OPERATORS;
    }

    private static int yearOf(int month) {
        return month / MONTHS_OF_A_YEAR;
    }

    private static void refuseOutside(int value, int least, int most) {
        if (value < least || value > most) {
            throw new IllegalArgumentException("an argument is out of its range");
        }
    }

    private Operator operatorAt(int operator) {
        if (!isOperator(operator)) {
            throw new IndexOutOfBoundsException("there is no such operator");
        }
        return operators[operator];
    }

    private Pair pairAt(int host, int home) {
        if (!isOperator(host) || !isOperator(home)) {
            throw new IndexOutOfBoundsException("there is no such operator");
        }
        if (host == home) {
            throw new IllegalArgumentException("host and home are the same");
        }
        return pairs[host * OPERATORS + home];
    }

    private CallFile fileAt(int file) {
        if (file < 0 || file >= fileCount) {
            throw new IndexOutOfBoundsException("there is no such file");
        }
        return fileRows[file];
    }

    private Call callAt(int call) {
        if (call < 0 || call >= callCount) {
            throw new IndexOutOfBoundsException("there is no such call");
        }
        return callRows[call];
    }

    /** The file of the pair that waits with the number; null if none does. */
    private CallFile waitingFile(Pair pair, int number) {
        for (int i = 0; i < fileCount; i++) {
            CallFile file = fileRows[i];
            if (file.pair == pair && file.state == WAITS && file.number == number) {
                return file;
            }
        }
        return null;
    }

    /** Looks at a file with the expected number, and at those that waited for it. */
    private void lookAtAllFrom(CallFile first) {
        Pair pair = first.pair;
        CallFile next = first;
        for (int looked = 0; looked < MOST_FILES && next != null; looked++) {
            lookAt(next);
            pair.expectedNumber++;
            next = waitingFile(pair, pair.expectedNumber);
        }
    }

    private void lookAt(CallFile file) {
        if (now - file.begunIn > MONTHS_UNTIL_LATE) {
            file.state = LATE;
        } else if (wrongCallsOf(file) * 3 > file.size) {
            file.state = BAD;
        } else {
            file.state = ACCEPTED;
            acceptRightCallsOf(file);
        }
    }

    private int wrongCallsOf(CallFile file) {
        int wrong = 0;
        for (int i = 0; i < callCount; i++) {
            Call call = callRows[i];
            if (call.file == file && !call.isRight()) {
                wrong++;
            }
        }
        return wrong;
    }

    private void acceptRightCallsOf(CallFile file) {
        for (int i = 0; i < callCount; i++) {
            Call call = callRows[i];
            if (call.file == file && call.isRight()) {
                call.acceptIn(now);
            }
        }
    }

    private void giveBackUnanswered() {
        for (int i = 0; i < callCount; i++) {
            Call call = callRows[i];
            if (call.state == DISPUTED && now - call.disputedIn >= MONTHS_TO_ANSWER) {
                call.state = BACK;
            }
        }
    }

    private long amountOfMonths(Pair pair, int first, int last) {
        long amount = 0;
        for (int i = 0; i < callCount; i++) {
            Call call = callRows[i];
            if (call.file.pair == pair && call.acceptedIn >= first && call.acceptedIn <= last) {
                amount += call.amount();
            }
        }
        return amount;
    }

    private long unitsOfMonth(Pair pair, int month) {
        return amountOfMonths(pair, month, month) * pair.host.unitRate / WHOLE_UNIT;
    }

    private static final class Operator {
        int step = 60;
        int price = 10;
        int beginning = 0;
        int unitRate = WHOLE_UNIT;

        int chargeFor(int seconds) {
            int steps = (seconds + step - 1) / step;
            return beginning + price * steps;
        }
    }

    private static final class Pair {
        final Operator host;
        int expectedNumber = 1;
        int promised = 0;
        // Without an agreement the rate 0 takes nothing off, whatever the volume.
        int volume = 0;
        int discountRate = 0;
        boolean goesBack = false;
        final int[] acceptedSeconds = new int[YEARS];

        Pair(Operator host) {
            this.host = host;
        }

        boolean discounts(int year, int secondsAhead) {
            return (goesBack ? acceptedSeconds[year] : secondsAhead) >= volume;
        }
    }

    private static final class CallFile {
        final Pair pair;
        final int begunIn;
        int state = DRAFT;
        int size = 0;
        int number = NONE;

        CallFile(Pair pair, int begunIn) {
            this.pair = pair;
            this.begunIn = begunIn;
        }
    }

    private static final class Call {
        final CallFile file;
        final int seconds;
        final int told;
        int state = OUTSIDE;
        int acceptedIn = NONE;
        int disputedIn = NONE;
        int secondsAhead = 0;

        Call(CallFile file, int seconds, int told) {
            this.file = file;
            this.seconds = seconds;
            this.told = told;
        }

        boolean isRight() {
            return told == file.pair.host.chargeFor(seconds);
        }

        void acceptIn(int month) {
            int year = yearOf(month);
            state = OWED;
            acceptedIn = month;
            // Accepted calls are never taken away again, so what is ahead of one stays as it is now.
            secondsAhead = file.pair.acceptedSeconds[year];
            file.pair.acceptedSeconds[year] += seconds;
        }

        int amount() {
            if (state == OUTSIDE || state == BACK) {
                return 0;
            }
            if (!file.pair.discounts(yearOf(acceptedIn), secondsAhead)) {
                return told;
            }
            return told - (int) ((long) told * file.pair.discountRate / WHOLE_DISCOUNT);
        }
    }
}
