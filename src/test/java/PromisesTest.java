import java.util.function.IntConsumer;

/** Promises 1 to 23, one after the other: ordinary calls, the edges the document names, and wrong calls. */
public final class PromisesTest {
    private static final int[] NO_OPERATORS = {-1, 4, Integer.MIN_VALUE, Integer.MAX_VALUE};

    private final Checks checks = new Checks();

    public static void main(String[] args) {
        PromisesTest test = new PromisesTest();
        test.newObject();
        test.setTariff();
        test.charge();
        test.begin();
        test.enter();
        test.enterManyCalls();
        test.send();
        test.sendOutOfOrder();
        test.sendAllBackwards();
        test.sendLate();
        test.sendBad();
        test.sendByTheTariffOfNow();
        test.stateOf();
        test.expected();
        test.lacking();
        test.calls();
        test.call();
        test.monthOf();
        test.owedFor();
        test.owedForCallsInTheOrderOfAcceptance();
        test.owedForByYears();
        test.dispute();
        test.answer();
        test.agree();
        test.promise();
        test.setRate();
        test.nextMonth();
        test.unansweredDisputes();
        test.month();
        test.owed();
        test.shortfall();
        test.net();
        test.checks.end("PromisesTest");
    }

    private interface OfPair {
        void run(int host, int home);
    }

    /** What every method of a pair refuses; the deed's other arguments may be wrong, too. */
    private void refusesWrongPairs(String what, OfPair deed) {
        for (int none : NO_OPERATORS) {
            checks.outOfBounds(what + " host " + none, () -> deed.run(none, 1));
            checks.outOfBounds(what + " home " + none, () -> deed.run(1, none));
            checks.outOfBounds(what + " both " + none, () -> deed.run(none, none));
        }
        for (int same = 0; same < 4; same++) {
            int operator = same;
            checks.illegalArgument(what + " twice " + same, () -> deed.run(operator, operator));
        }
    }

    private void newObject() {
        checks.begin("1 new object");
        RoamingHouse house = new RoamingHouse();
        checks.due("month", house.month(), 0);
        checks.due("calls", house.calls(), 0);
        checks.outOfBounds("stateOf(0)", () -> house.stateOf(0));
        checks.outOfBounds("call(0)", () -> house.call(0));
        for (int host = 0; host < 4; host++) {
            checks.due("charge of 60", house.charge(host, 60), 10);
            checks.due("charge of 61", house.charge(host, 61), 20);
            checks.due("net", house.net(host, 0), 0);
            for (int home = 0; home < 4; home++) {
                if (home != host) {
                    checks.due("expected", house.expected(host, home), 1);
                    checks.due("lacking", house.lacking(host, home), 0);
                    checks.due("owed", house.owed(host, home, 0), 0);
                    checks.due("promise", house.promise(host, home, 0), 0);
                }
            }
            checks.due("price", house.setTariff(host, 60, 10, 0), 10);
            checks.due("rate", house.setRate(host, 1000), 1000);
        }
        Houses.accepted(house, 0, 1, 60);
        RoamingHouse other = new RoamingHouse();
        checks.due("calls of another object", other.calls(), 0);
        checks.due("expected of another object", other.expected(0, 1), 1);
    }

    private void setTariff() {
        checks.begin("2 setTariff");
        RoamingHouse house = new RoamingHouse();
        checks.due("price before", house.setTariff(1, 7, 20, 5), 10);
        checks.due("price before", house.setTariff(1, 1, 0, 0), 20);
        checks.due("price before", house.setTariff(1, 600, 1000, 1000), 0);
        checks.due("charge of 600", house.charge(1, 600), 2000);
        checks.due("charge of 601", house.charge(1, 601), 3000);
        checks.due("another host", house.charge(0, 600), 100);
        for (int none : NO_OPERATORS) {
            checks.outOfBounds("host " + none, () -> house.setTariff(none, 60, 10, 0));
            checks.outOfBounds("all wrong, host " + none, () -> house.setTariff(none, 0, -1, -1));
        }
        for (int step : new int[] {0, -1, 601, Integer.MIN_VALUE, Integer.MAX_VALUE}) {
            checks.illegalArgument("step " + step, () -> house.setTariff(1, step, 1, 1));
        }
        for (int wrong : new int[] {-1, 1001, Integer.MIN_VALUE, Integer.MAX_VALUE}) {
            checks.illegalArgument("price " + wrong, () -> house.setTariff(1, 1, wrong, 1));
            checks.illegalArgument("beginning " + wrong, () -> house.setTariff(1, 1, 1, wrong));
        }
    }

    private void charge() {
        checks.begin("3 charge");
        RoamingHouse house = new RoamingHouse();
        checks.due("1 second", house.charge(3, 1), 10);
        checks.due("60 seconds", house.charge(3, 60), 10);
        checks.due("61 seconds", house.charge(3, 61), 20);
        checks.due("36000 seconds", house.charge(3, 36000), 6000);
        house.setTariff(3, 7, 3, 11);
        checks.due("7 seconds", house.charge(3, 7), 14);
        checks.due("8 seconds", house.charge(3, 8), 17);
        checks.due("14 seconds", house.charge(3, 14), 17);
        house.setTariff(3, 1, 1000, 1000);
        checks.due("the dearest call", house.charge(3, 36000), 36001000);
        house.setTariff(3, 1, 0, 0);
        checks.due("for nothing", house.charge(3, 36000), 0);
        for (int none : NO_OPERATORS) {
            checks.outOfBounds("host " + none, () -> house.charge(none, 60));
            checks.outOfBounds("all wrong, host " + none, () -> house.charge(none, 0));
        }
        for (int seconds : new int[] {0, -1, 36001, Integer.MIN_VALUE, Integer.MAX_VALUE}) {
            checks.illegalArgument("seconds " + seconds, () -> house.charge(3, seconds));
        }
    }

    private void begin() {
        checks.begin("4 begin");
        RoamingHouse house = new RoamingHouse();
        for (int file = 0; file < 30; file++) {
            checks.due("file", house.begin(file % 4, (file + 1 + file / 4 % 3) % 4), file);
            checks.due("stateOf", house.stateOf(file), RoamingHouse.DRAFT);
        }
        checks.illegalState("the 31st file", () -> house.begin(0, 1));
        checks.outOfBounds("the 31st file's state", () -> house.stateOf(30));
        refusesWrongPairs("in a full house", house::begin);
        RoamingHouse fresh = new RoamingHouse();
        refusesWrongPairs("in a new house", fresh::begin);
        checks.due("the first file after wrong calls", fresh.begin(3, 0), 0);
    }

    private void enter() {
        checks.begin("5 enter");
        RoamingHouse house = new RoamingHouse();
        int first = house.begin(0, 1);
        int second = house.begin(2, 1);
        checks.due("least", house.enter(first, 1, 0), 0);
        checks.due("most", house.enter(second, 36000, 50000000), 1);
        checks.due("the first file again", house.enter(first, 60, 10), 2);
        checks.due("call", house.call(1), RoamingHouse.OUTSIDE);
        for (int none : new int[] {-1, 2, 30, Integer.MIN_VALUE, Integer.MAX_VALUE}) {
            checks.outOfBounds("file " + none, () -> house.enter(none, 60, 10));
            checks.outOfBounds("all wrong, file " + none, () -> house.enter(none, 0, -1));
        }
        for (int wrong : new int[] {0, -1, 36001, Integer.MIN_VALUE, Integer.MAX_VALUE}) {
            checks.illegalArgument("seconds " + wrong, () -> house.enter(first, wrong, 10));
        }
        for (int wrong : new int[] {-1, 50000001, Integer.MIN_VALUE, Integer.MAX_VALUE}) {
            checks.illegalArgument("told " + wrong, () -> house.enter(first, 60, wrong));
        }
        house.send(first, 2);
        checks.illegalState("into a file that waits", () -> house.enter(first, 60, 10));
        checks.illegalArgument("wrong seconds into a file that waits", () -> house.enter(first, 0, 10));
        checks.illegalArgument("wrongly told into a file that waits", () -> house.enter(first, 1, -1));
        house.send(second, 1);
        checks.illegalState("into a file that is bad", () -> house.enter(second, 60, 10));
        checks.due("a call after wrong ones", house.enter(house.begin(3, 2), 60, 10), 3);
    }

    private void enterManyCalls() {
        checks.begin("5 enter, 60 calls");
        RoamingHouse house = new RoamingHouse();
        int file = house.begin(0, 1);
        int other = house.begin(0, 2);
        for (int call = 0; call < 60; call++) {
            checks.due("call", house.enter(call % 7 == 0 ? other : file, 36000, 6000), call);
        }
        checks.illegalState("the 61st call", () -> house.enter(file, 60, 10));
        checks.illegalArgument("the 61st call, wrong", () -> house.enter(file, 60, -1));
        checks.outOfBounds("the 61st call, no file", () -> house.enter(2, 60, 10));
        checks.due("send all", house.send(file, 1), RoamingHouse.ACCEPTED);
        checks.due("owed for all", house.owed(0, 1, 0), 51 * 6000);
        checks.due("send the others", house.send(other, 1), RoamingHouse.ACCEPTED);
        checks.due("owed for the others", house.owed(0, 2, 0), 9 * 6000);
    }

    private void send() {
        checks.begin("6 send");
        RoamingHouse house = new RoamingHouse();
        int empty = house.begin(0, 1);
        checks.illegalState("a file without calls", () -> house.send(empty, 1));
        checks.illegalArgument("a wrong number without calls", () -> house.send(empty, 0));
        int first = Houses.draft(house, 0, 1, 1);
        for (int wrong : new int[] {0, -1, 100, Integer.MIN_VALUE, Integer.MAX_VALUE}) {
            checks.illegalArgument("number " + wrong, () -> house.send(first, wrong));
        }
        for (int none : new int[] {-1, 2, 30, Integer.MIN_VALUE, Integer.MAX_VALUE}) {
            checks.outOfBounds("file " + none, () -> house.send(none, 1));
            checks.outOfBounds("all wrong, file " + none, () -> house.send(none, 0));
        }
        checks.due("the expected one", house.send(first, 1), RoamingHouse.ACCEPTED);
        checks.illegalState("accepted already", () -> house.send(first, 2));
        checks.illegalArgument("accepted already, and a wrong number", () -> house.send(first, 100));
        int twice = Houses.draft(house, 0, 1, 1);
        checks.due("a number lower than the expected one", house.send(twice, 1), RoamingHouse.DOUBLE);
        checks.illegalState("double already", () -> house.send(twice, 2));
        checks.due("calls of a double file", house.call(1), RoamingHouse.OUTSIDE);
        int last = Houses.draft(house, 0, 1, 1);
        checks.due("the greatest number", house.send(last, 99), RoamingHouse.WAITS);
        checks.illegalState("waits already", () -> house.send(last, 2));
        checks.due("a number with which one waits", house.send(Houses.draft(house, 0, 1, 1), 99), RoamingHouse.DOUBLE);
        checks.due("another pair, the same number", house.send(Houses.draft(house, 1, 0, 1), 99), RoamingHouse.WAITS);
        checks.due("another home, the same number", house.send(Houses.draft(house, 0, 2, 1), 99), RoamingHouse.WAITS);
        int other = Houses.draft(house, 1, 0, 1);
        checks.due("the expected one of another pair", house.send(other, 1), RoamingHouse.ACCEPTED);
    }

    private void sendOutOfOrder() {
        checks.begin("6 send, out of order");
        RoamingHouse house = new RoamingHouse();
        int[] files = new int[7];
        for (int number = 1; number <= 6; number++) {
            files[number] = Houses.draft(house, 2, 0, 1);
        }
        int foreign = Houses.draft(house, 2, 1, 1);
        checks.due("number 3", house.send(files[3], 3), RoamingHouse.WAITS);
        checks.due("number 6", house.send(files[6], 6), RoamingHouse.WAITS);
        checks.due("number 2", house.send(files[2], 2), RoamingHouse.WAITS);
        checks.due("a foreign number 4", house.send(foreign, 4), RoamingHouse.WAITS);
        checks.due("expected", house.expected(2, 0), 1);
        checks.due("number 1", house.send(files[1], 1), RoamingHouse.ACCEPTED);
        for (int number = 1; number <= 3; number++) {
            checks.due("now looked at " + number, house.stateOf(files[number]), RoamingHouse.ACCEPTED);
        }
        checks.due("behind the gap", house.stateOf(files[6]), RoamingHouse.WAITS);
        checks.due("of another pair", house.stateOf(foreign), RoamingHouse.WAITS);
        checks.due("expected", house.expected(2, 0), 4);
        checks.due("number 5", house.send(files[5], 5), RoamingHouse.WAITS);
        checks.due("number 4", house.send(files[4], 4), RoamingHouse.ACCEPTED);
        checks.due("number 6 now", house.stateOf(files[6]), RoamingHouse.ACCEPTED);
        checks.due("expected", house.expected(2, 0), 7);
    }

    private void sendAllBackwards() {
        checks.begin("6 send, all files backwards");
        RoamingHouse house = new RoamingHouse();
        for (int file = 0; file < 30; file++) {
            checks.due("lacking before", house.lacking(1, 3), file == 0 ? 0 : 30 - file);
            int due = file == 29 ? RoamingHouse.ACCEPTED : RoamingHouse.WAITS;
            checks.due("sent backwards", house.send(Houses.draft(house, 1, 3, 2), 30 - file), due);
        }
        for (int file = 0; file < 30; file++) {
            checks.due("looked at", house.stateOf(file), RoamingHouse.ACCEPTED);
        }
        checks.due("expected", house.expected(1, 3), 31);
        checks.due("lacking", house.lacking(1, 3), 0);
        checks.due("owed", house.owed(1, 3, 0), 600);
        house.agree(1, 3, 3600 - 60, 10000, false);
        checks.due("the last one to be accepted", house.owedFor(1), 0);
        checks.due("the one before", house.owedFor(0), 10);
    }

    private void sendLate() {
        checks.begin("6 send, late");
        RoamingHouse house = new RoamingHouse();
        int waiting = Houses.draft(house, 0, 1, 1);
        int timely = Houses.draft(house, 0, 2, 1);
        int late = Houses.draft(house, 0, 1, 1);
        house.send(waiting, 2);
        Houses.letPass(house, 2);
        checks.due("2 months above", house.send(timely, 1), RoamingHouse.ACCEPTED);
        int fresh = Houses.draft(house, 0, 1, 1);
        house.send(fresh, 3);
        house.nextMonth();
        checks.due("3 months above", house.send(late, 1), RoamingHouse.LATE);
        checks.due("late, because it waited", house.stateOf(waiting), RoamingHouse.LATE);
        checks.due("looked at behind late ones", house.stateOf(fresh), RoamingHouse.ACCEPTED);
        checks.due("expected behind late ones", house.expected(0, 1), 4);
        checks.due("call of a late file", house.call(0), RoamingHouse.OUTSIDE);
        checks.due("month of a late file's call", house.monthOf(0), RoamingHouse.NONE);
        checks.due("call behind late files", house.call(3), RoamingHouse.OWED);
        checks.due("month of a call behind late files", house.monthOf(3), 3);
        int wrong = house.begin(0, 1);
        house.enter(wrong, 60, 11);
        Houses.letPass(house, 3);
        checks.due("late and bad", house.send(wrong, 4), RoamingHouse.LATE);
    }

    private void sendBad() {
        checks.begin("6 send, bad");
        RoamingHouse house = new RoamingHouse();
        int[][] rightWrongAndState = {
            {0, 1, RoamingHouse.BAD}, {1, 1, RoamingHouse.BAD}, {2, 1, RoamingHouse.ACCEPTED},
            {3, 2, RoamingHouse.BAD}, {4, 2, RoamingHouse.ACCEPTED}, {3, 1, RoamingHouse.ACCEPTED},
        };
        int number = 1;
        for (int[] row : rightWrongAndState) {
            int file = Houses.draft(house, 0, 1, row[0]);
            int call = house.calls();
            for (int i = 0; i < row[1]; i++) {
                house.enter(file, 60, i % 2 == 0 ? 9 : 11);
            }
            checks.due(row[0] + " right, " + row[1] + " wrong", house.send(file, number), row[2]);
            checks.due("wrong call", house.call(call), RoamingHouse.OUTSIDE);
            if (row[0] > 0) {
                int due = row[2] == RoamingHouse.ACCEPTED ? RoamingHouse.OWED : RoamingHouse.OUTSIDE;
                checks.due("right call", house.call(call - 1), due);
            }
            number++;
            checks.due("expected", house.expected(0, 1), number);
        }
        checks.due("owed for the right ones", house.owed(0, 1, 0), 90);
    }

    private void sendByTheTariffOfNow() {
        checks.begin("6 send, by the tariff of now");
        RoamingHouse house = new RoamingHouse();
        int first = Houses.draft(house, 0, 1, 1);
        int second = house.begin(0, 1);
        house.enter(second, 60, 25);
        house.send(second, 2);
        house.setTariff(0, 30, 10, 5);
        checks.due("by a tariff of before", house.send(first, 1), RoamingHouse.BAD);
        checks.due("right by now", house.stateOf(second), RoamingHouse.ACCEPTED);
        house.setTariff(0, 60, 1, 0);
        checks.due("accepted under another tariff", house.owedFor(1), 25);
    }

    private void stateOf() {
        checks.begin("7 stateOf");
        RoamingHouse house = new RoamingHouse();
        int first = Houses.draft(house, 0, 1, 1);
        checks.due("draft", house.stateOf(first), RoamingHouse.DRAFT);
        house.send(first, 3);
        checks.due("waits", house.stateOf(first), RoamingHouse.WAITS);
        int second = Houses.draft(house, 0, 1, 1);
        house.send(second, 3);
        checks.due("double", house.stateOf(second), RoamingHouse.DOUBLE);
        int third = Houses.draft(house, 0, 1, 1);
        house.send(third, 1);
        checks.due("accepted", house.stateOf(third), RoamingHouse.ACCEPTED);
        int fourth = house.begin(0, 1);
        house.enter(fourth, 60, 11);
        Houses.letPass(house, 3);
        house.send(fourth, 2);
        checks.due("late", house.stateOf(fourth), RoamingHouse.LATE);
        int fifth = house.begin(0, 1);
        house.enter(fifth, 60, 11);
        house.send(fifth, 4);
        checks.due("bad", house.stateOf(fifth), RoamingHouse.BAD);
        for (int none : new int[] {-1, 5, 30, Integer.MIN_VALUE, Integer.MAX_VALUE}) {
            checks.outOfBounds("file " + none, () -> house.stateOf(none));
        }
    }

    private void expected() {
        checks.begin("8 expected");
        RoamingHouse house = new RoamingHouse();
        house.send(Houses.draft(house, 0, 1, 1), 1);
        checks.due("after a file", house.expected(0, 1), 2);
        house.send(Houses.draft(house, 0, 1, 1), 1);
        checks.due("after a double one", house.expected(0, 1), 2);
        house.send(Houses.draft(house, 0, 1, 1), 3);
        checks.due("after one that waits", house.expected(0, 1), 2);
        checks.due("the other way round", house.expected(1, 0), 1);
        checks.due("another home", house.expected(0, 2), 1);
        checks.due("another host", house.expected(2, 1), 1);
        refusesWrongPairs("expected", house::expected);
    }

    private void lacking() {
        checks.begin("9 lacking");
        RoamingHouse house = new RoamingHouse();
        int first = Houses.draft(house, 3, 1, 1);
        checks.due("with a draft", house.lacking(3, 1), 0);
        house.send(Houses.draft(house, 3, 1, 1), 5);
        checks.due("1 to 4", house.lacking(3, 1), 4);
        house.send(Houses.draft(house, 3, 1, 1), 3);
        checks.due("1, 2, 4", house.lacking(3, 1), 3);
        house.send(Houses.draft(house, 3, 1, 1), 3);
        checks.due("a double one", house.lacking(3, 1), 3);
        house.send(Houses.draft(house, 3, 2, 1), 4);
        checks.due("one of another pair", house.lacking(3, 1), 3);
        checks.due("the other pair", house.lacking(3, 2), 3);
        house.send(first, 1);
        checks.due("2, 4", house.lacking(3, 1), 2);
        house.send(Houses.draft(house, 3, 1, 1), 2);
        checks.due("4", house.lacking(3, 1), 1);
        house.send(Houses.draft(house, 3, 1, 1), 4);
        checks.due("none", house.lacking(3, 1), 0);
        house.send(Houses.draft(house, 3, 1, 1), 99);
        checks.due("6 to 98", house.lacking(3, 1), 93);
        refusesWrongPairs("lacking", house::lacking);
    }

    private void calls() {
        checks.begin("10 calls");
        RoamingHouse house = new RoamingHouse();
        int first = house.begin(0, 1);
        checks.due("with an empty file", house.calls(), 0);
        house.enter(first, 60, 10);
        house.enter(house.begin(1, 0), 60, 11);
        checks.due("of two files", house.calls(), 2);
        house.send(first, 1);
        checks.due("after sending", house.calls(), 2);
        checks.illegalState("into a sent one", () -> house.enter(first, 60, 10));
        checks.due("after a call that throws", house.calls(), 2);
        for (int i = 2; i < 60; i++) {
            house.enter(1, 60, 10);
        }
        checks.due("of a full house", house.calls(), 60);
    }

    private void refusesWrongCalls(String what, RoamingHouse house, IntConsumer deed) {
        for (int none : new int[] {-1, house.calls(), 60, Integer.MIN_VALUE, Integer.MAX_VALUE}) {
            checks.outOfBounds(what + " " + none, () -> deed.accept(none));
        }
    }

    private void call() {
        checks.begin("11 call");
        RoamingHouse house = new RoamingHouse();
        int file = Houses.draft(house, 0, 1, 3);
        int refused = house.enter(file, 60, 11);
        checks.due("in a draft", house.call(0), RoamingHouse.OUTSIDE);
        house.send(file, 1);
        checks.due("accepted", house.call(0), RoamingHouse.OWED);
        checks.due("refused", house.call(refused), RoamingHouse.OUTSIDE);
        house.dispute(0);
        checks.due("disputed", house.call(0), RoamingHouse.DISPUTED);
        house.answer(0, true);
        checks.due("upheld", house.call(0), RoamingHouse.UPHELD);
        house.dispute(1);
        house.answer(1, false);
        checks.due("given back", house.call(1), RoamingHouse.BACK);
        checks.due("left alone", house.call(2), RoamingHouse.OWED);
        refusesWrongCalls("call", house, house::call);
    }

    private void monthOf() {
        checks.begin("12 monthOf");
        RoamingHouse house = new RoamingHouse();
        int file = Houses.draft(house, 0, 1, 3);
        int refused = house.enter(file, 60, 11);
        checks.due("in a draft", house.monthOf(0), RoamingHouse.NONE);
        Houses.letPass(house, 2);
        house.send(file, 1);
        house.nextMonth();
        checks.due("not the month of the file", house.monthOf(0), 2);
        checks.due("refused", house.monthOf(refused), RoamingHouse.NONE);
        house.dispute(0);
        checks.due("disputed", house.monthOf(0), 2);
        house.answer(0, false);
        checks.due("given back", house.monthOf(0), 2);
        house.dispute(1);
        house.answer(1, true);
        checks.due("upheld", house.monthOf(1), 2);
        refusesWrongCalls("monthOf", house, house::monthOf);
    }

    private void owedFor() {
        checks.begin("13 owedFor");
        RoamingHouse house = new RoamingHouse();
        house.setTariff(0, 60, 27, 0);
        int file = Houses.draft(house, 0, 1, 3);
        int refused = house.enter(file, 60, 28);
        checks.due("in a draft", house.owedFor(0), 0);
        house.send(file, 1);
        checks.due("as told", house.owedFor(0), 27);
        checks.due("refused", house.owedFor(refused), 0);
        house.agree(0, 1, 0, 5000, false);
        checks.due("less a discount rounded down", house.owedFor(0), 14);
        house.dispute(0);
        checks.due("disputed", house.owedFor(0), 14);
        house.answer(0, true);
        checks.due("upheld", house.owedFor(0), 14);
        house.dispute(1);
        house.answer(1, false);
        checks.due("given back", house.owedFor(1), 0);
        house.agree(0, 1, 0, 10000, false);
        checks.due("all of it taken off", house.owedFor(0), 0);
        house.setTariff(0, 1, 1000, 1000);
        int dear = Houses.accepted(house, 0, 1, 36000);
        house.agree(0, 1, 0, 9999, false);
        checks.due("a great discount", house.owedFor(dear), 36001000 - 35997399);
        house.agree(0, 1, 0, 0, true);
        checks.due("no discount", house.owedFor(dear), 36001000);
        refusesWrongCalls("owedFor", house, house::owedFor);
    }

    private void owedForCallsInTheOrderOfAcceptance() {
        checks.begin("13 owedFor, in the order of acceptance");
        RoamingHouse house = new RoamingHouse();
        int early = house.begin(0, 1);
        int late = house.begin(0, 1);
        int foreign = house.begin(0, 2);
        int third = house.enter(late, 180, 30);
        int first = house.enter(early, 60, 10);
        int fourth = house.enter(late, 240, 40);
        int second = house.enter(early, 120, 20);
        int other = house.enter(foreign, 600, 100);
        house.send(foreign, 1);
        house.send(late, 2);
        house.send(early, 1);
        // In the order of acceptance 0, 60, 180 and 360 seconds are ahead; 600 are there in all.
        int[] calls = {first, second, third, fourth};
        int[] ahead = {0, 60, 180, 360};
        for (int i = 0; i < 4; i++) {
            int told = 10 * (i + 1);
            house.agree(0, 1, ahead[i], 5000, false);
            checks.due("as many seconds ahead as the volume", house.owedFor(calls[i]), told / 2);
            house.agree(0, 1, ahead[i] + 1, 5000, false);
            checks.due("a second less ahead", house.owedFor(calls[i]), told);
            house.agree(0, 1, 600, 5000, true);
            checks.due("going back, reached", house.owedFor(calls[i]), told / 2);
            house.agree(0, 1, 601, 5000, true);
            checks.due("going back, not reached", house.owedFor(calls[i]), told);
        }
        checks.due("another pair", house.owedFor(other), 100);
        house.dispute(first);
        house.answer(first, false);
        house.agree(0, 1, 180, 5000, false);
        checks.due("behind one that was given back", house.owedFor(third), 15);
        house.agree(0, 1, 600, 5000, true);
        checks.due("going back with one that was given back", house.owedFor(fourth), 20);
    }

    private void owedForByYears() {
        checks.begin("13 owedFor, by years");
        RoamingHouse house = new RoamingHouse();
        Houses.letPass(house, 11);
        int first = Houses.accepted(house, 0, 1, 600);
        house.nextMonth();
        int second = Houses.accepted(house, 0, 1, 300);
        Houses.letPass(house, 11);
        int third = Houses.accepted(house, 0, 1, 300);
        house.nextMonth();
        int fourth = Houses.accepted(house, 0, 1, 60);
        Houses.letPass(house, 11);
        int fifth = Houses.accepted(house, 0, 1, 60);
        house.agree(0, 1, 300, 1000, false);
        checks.due("first of year 0", house.owedFor(first), 100);
        checks.due("first of year 1", house.owedFor(second), 50);
        checks.due("second of year 1", house.owedFor(third), 45);
        checks.due("first of year 2", house.owedFor(fourth), 10);
        checks.due("second of year 2", house.owedFor(fifth), 10);
        house.agree(0, 1, 600, 1000, true);
        checks.due("back in year 0", house.owedFor(first), 90);
        checks.due("back in year 1", house.owedFor(second), 45);
        checks.due("back in year 2", house.owedFor(fourth), 10);
        house.agree(0, 1, 120, 1000, true);
        checks.due("back in year 2 by less", house.owedFor(fourth), 9);
    }

    private void dispute() {
        checks.begin("14 dispute");
        RoamingHouse house = new RoamingHouse();
        int file = Houses.draft(house, 0, 1, 4);
        int refused = house.enter(file, 60, 11);
        checks.illegalState("in a draft", () -> house.dispute(0));
        house.send(file, 1);
        house.dispute(0);
        checks.due("in its month", house.call(0), RoamingHouse.DISPUTED);
        checks.illegalState("a disputed one", () -> house.dispute(0));
        checks.illegalState("a refused one", () -> house.dispute(refused));
        house.nextMonth();
        house.dispute(1);
        checks.due("in the month behind it", house.call(1), RoamingHouse.DISPUTED);
        house.answer(0, true);
        checks.illegalState("an upheld one", () -> house.dispute(0));
        house.answer(1, false);
        checks.illegalState("one given back", () -> house.dispute(1));
        house.nextMonth();
        checks.illegalState("two months behind it", () -> house.dispute(2));
        refusesWrongCalls("dispute", house, house::dispute);
    }

    private void answer() {
        checks.begin("15 answer");
        RoamingHouse house = new RoamingHouse();
        int file = Houses.draft(house, 0, 1, 3);
        checks.illegalState("in a draft", () -> house.answer(0, true));
        house.send(file, 1);
        checks.illegalState("an owed one", () -> house.answer(0, false));
        house.dispute(0);
        house.dispute(1);
        house.answer(0, true);
        checks.due("upheld", house.call(0), RoamingHouse.UPHELD);
        house.nextMonth();
        house.answer(1, false);
        checks.due("given back in the month behind", house.call(1), RoamingHouse.BACK);
        checks.illegalState("an upheld one", () -> house.answer(0, false));
        checks.illegalState("one given back", () -> house.answer(1, true));
        refusesWrongCalls("answer", house, call -> house.answer(call, true));
    }

    private void agree() {
        checks.begin("16 agree");
        RoamingHouse house = new RoamingHouse();
        int first = Houses.accepted(house, 0, 1, 600);
        int second = Houses.accepted(house, 0, 1, 600);
        int other = Houses.accepted(house, 1, 0, 600);
        checks.due("without an agreement", house.owedFor(second), 100);
        house.agree(0, 1, 600, 2000, false);
        checks.due("ahead too little", house.owedFor(first), 100);
        checks.due("ahead enough", house.owedFor(second), 80);
        house.agree(0, 1, 1200, 3000, true);
        checks.due("another in its place, going back", house.owedFor(first), 70);
        house.agree(0, 1, 1200, 3000, false);
        checks.due("another in its place, not going back", house.owedFor(first), 100);
        house.agree(0, 1, 0, 1, true);
        checks.due("a volume of 0", house.owedFor(first), 100);
        house.agree(0, 1, 0, 100, false);
        checks.due("a volume of 0, not going back", house.owedFor(first), 99);
        checks.due("the other way round", house.owedFor(other), 100);
        for (int wrong : new int[] {-1, 1000001, Integer.MIN_VALUE, Integer.MAX_VALUE}) {
            checks.illegalArgument("volume " + wrong, () -> house.agree(0, 1, wrong, 5000, true));
        }
        for (int wrong : new int[] {-1, 10001, Integer.MIN_VALUE, Integer.MAX_VALUE}) {
            checks.illegalArgument("rate " + wrong, () -> house.agree(0, 1, 600, wrong, true));
        }
        refusesWrongPairs("agree", (host, home) -> house.agree(host, home, 0, 5000, true));
        refusesWrongPairs("agree, all wrong", (host, home) -> house.agree(host, home, -1, -1, true));
        house.agree(0, 1, 1000000, 10000, true);
        checks.due("the greatest volume", house.owedFor(first), 100);
    }

    private void promise() {
        checks.begin("17 promise");
        RoamingHouse house = new RoamingHouse();
        checks.due("at first", house.promise(2, 1, 100000000), 0);
        checks.due("before", house.promise(2, 1, 7), 100000000);
        checks.due("the other way round", house.promise(1, 2, 0), 0);
        Houses.letPass(house, 12);
        checks.due("falls short", house.shortfall(2, 1, 0), 7);
        for (int wrong : new int[] {-1, 100000001, Integer.MIN_VALUE, Integer.MAX_VALUE}) {
            checks.illegalArgument("promise " + wrong, () -> house.promise(2, 1, wrong));
        }
        refusesWrongPairs("promise", (host, home) -> house.promise(host, home, 5));
        refusesWrongPairs("promise, all wrong", (host, home) -> house.promise(host, home, -1));
        checks.due("after wrong calls", house.promise(2, 1, 0), 7);
    }

    private void setRate() {
        checks.begin("18 setRate");
        RoamingHouse house = new RoamingHouse();
        Houses.accepted(house, 1, 2, 60);
        house.nextMonth();
        Houses.accepted(house, 1, 2, 120);
        checks.due("at first", house.setRate(1, 100000), 1000);
        checks.due("a month that is past", house.net(1, 0), 1000);
        checks.due("this month", house.net(1, 1), 2000);
        checks.due("before", house.setRate(1, 1), 100000);
        checks.due("the least", house.net(1, 1), 0);
        checks.due("another one's", house.setRate(2, 5), 1000);
        for (int none : NO_OPERATORS) {
            checks.outOfBounds("operator " + none, () -> house.setRate(none, 5));
            checks.outOfBounds("all wrong, operator " + none, () -> house.setRate(none, 0));
        }
        for (int wrong : new int[] {0, -1, 100001, Integer.MIN_VALUE, Integer.MAX_VALUE}) {
            checks.illegalArgument("rate " + wrong, () -> house.setRate(2, wrong));
        }
        checks.due("after wrong calls", house.setRate(2, 1000), 5);
    }

    private void nextMonth() {
        checks.begin("19 nextMonth");
        RoamingHouse house = new RoamingHouse();
        Houses.accepted(house, 0, 1, 60);
        for (int month = 1; month <= 35; month++) {
            checks.due("month", house.nextMonth(), month);
        }
        checks.illegalState("behind the last one", house::nextMonth);
        checks.due("owed in the month 0", house.owed(0, 1, 0), 10);
        int disputed = Houses.accepted(house, 2, 1, 60);
        house.dispute(disputed);
        checks.illegalState("behind the last one again", house::nextMonth);
        checks.illegalState("behind the last one a third time", house::nextMonth);
        checks.due("a dispute in the last month", house.call(disputed), RoamingHouse.DISPUTED);
    }

    private void unansweredDisputes() {
        checks.begin("19 nextMonth, disputes without an answer");
        RoamingHouse house = new RoamingHouse();
        int file = Houses.draft(house, 0, 1, 4);
        house.send(file, 1);
        house.dispute(0);
        house.dispute(1);
        house.answer(1, true);
        house.nextMonth();
        house.dispute(2);
        checks.due("the month behind it", house.call(0), RoamingHouse.DISPUTED);
        house.nextMonth();
        checks.due("the second month behind it", house.call(0), RoamingHouse.BACK);
        checks.due("not owed", house.owedFor(0), 0);
        checks.due("upheld before", house.call(1), RoamingHouse.UPHELD);
        checks.due("disputed a month later", house.call(2), RoamingHouse.DISPUTED);
        checks.due("never disputed", house.call(3), RoamingHouse.OWED);
        checks.illegalState("an answer that comes too late", () -> house.answer(0, true));
        house.nextMonth();
        checks.due("a month later, the second month", house.call(2), RoamingHouse.BACK);
        checks.due("owed in all", house.owed(0, 1, 0), 20);
    }

    private void month() {
        checks.begin("20 month");
        RoamingHouse house = new RoamingHouse();
        for (int month = 0; month < 35; month++) {
            checks.due("month", house.month(), month);
            house.nextMonth();
        }
        checks.due("the last month", house.month(), 35);
        checks.illegalState("behind it", house::nextMonth);
        checks.due("still the last month", house.month(), 35);
    }

    private void owed() {
        checks.begin("21 owed");
        RoamingHouse house = new RoamingHouse();
        int first = Houses.accepted(house, 0, 1, 600);
        Houses.accepted(house, 0, 1, 60);
        Houses.accepted(house, 0, 2, 120);
        house.nextMonth();
        Houses.accepted(house, 0, 1, 180);
        checks.due("month 0", house.owed(0, 1, 0), 110);
        checks.due("month 1", house.owed(0, 1, 1), 30);
        checks.due("another home", house.owed(0, 2, 0), 20);
        checks.due("the other way round", house.owed(1, 0, 0), 0);
        house.agree(0, 1, 600, 1000, false);
        checks.due("month 0, less discounts", house.owed(0, 1, 0), 109);
        checks.due("month 1, less discounts", house.owed(0, 1, 1), 27);
        house.dispute(first);
        checks.due("one in dispute", house.owed(0, 1, 0), 109);
        house.answer(first, false);
        checks.due("one given back", house.owed(0, 1, 0), 9);
        for (int wrong : new int[] {-1, 2, 36, Integer.MIN_VALUE, Integer.MAX_VALUE}) {
            checks.illegalArgument("month " + wrong, () -> house.owed(0, 1, wrong));
        }
        refusesWrongPairs("owed", (host, home) -> house.owed(host, home, 0));
        refusesWrongPairs("owed, all wrong", (host, home) -> house.owed(host, home, -1));
        checks.due("as many as there can be", Houses.dear(3, 2).owed(3, 2, 0), 60L * 36001000);
    }

    private void shortfall() {
        checks.begin("22 shortfall");
        RoamingHouse house = new RoamingHouse();
        Houses.accepted(house, 0, 1, 600);
        Houses.letPass(house, 11);
        int last = Houses.accepted(house, 0, 1, 120);
        house.promise(0, 1, 150);
        checks.illegalState("in the last month of the year", () -> house.shortfall(0, 1, 0));
        house.nextMonth();
        Houses.accepted(house, 0, 1, 240);
        checks.due("year 0", house.shortfall(0, 1, 0), 30);
        checks.due("the other way round", house.shortfall(1, 0, 0), 0);
        checks.illegalState("year 1 has begun", () -> house.shortfall(0, 1, 1));
        house.dispute(last);
        house.answer(last, false);
        checks.due("one given back", house.shortfall(0, 1, 0), 50);
        house.agree(0, 1, 0, 5000, false);
        checks.due("less discounts", house.shortfall(0, 1, 0), 100);
        house.promise(0, 1, 50);
        checks.due("just what is owed", house.shortfall(0, 1, 0), 0);
        house.promise(0, 1, 49);
        checks.due("less than what is owed", house.shortfall(0, 1, 0), 0);
        house.promise(0, 1, 100000000);
        checks.due("the greatest promise", house.shortfall(0, 1, 0), 99999950);
        Houses.letPass(house, 11);
        checks.illegalState("the last month of year 1", () -> house.shortfall(0, 1, 1));
        house.nextMonth();
        checks.due("year 1", house.shortfall(0, 1, 1), 99999980);
        for (int wrong : new int[] {-1, 2, 3, Integer.MIN_VALUE, Integer.MAX_VALUE}) {
            checks.illegalArgument("year " + wrong, () -> house.shortfall(0, 1, wrong));
        }
        refusesWrongPairs("shortfall", (host, home) -> house.shortfall(host, home, 0));
        RoamingHouse fresh = new RoamingHouse();
        refusesWrongPairs("shortfall, all wrong", (host, home) -> fresh.shortfall(host, home, -1));
        refusesWrongPairs("shortfall, year not over", (host, home) -> fresh.shortfall(host, home, 0));
        checks.illegalArgument("year 2 in a new house", () -> fresh.shortfall(0, 1, 2));
        checks.illegalArgument("year -1 in a new house", () -> fresh.shortfall(0, 1, -1));
    }

    private void net() {
        checks.begin("23 net");
        RoamingHouse house = new RoamingHouse();
        Houses.accepted(house, 0, 1, 600);
        Houses.accepted(house, 0, 2, 60);
        Houses.accepted(house, 1, 0, 120);
        Houses.accepted(house, 3, 0, 180);
        checks.due("of 0", house.net(0, 0), 100 + 10 - 20 - 30);
        checks.due("of 1", house.net(1, 0), 20 - 100);
        checks.due("of 2", house.net(2, 0), -10);
        checks.due("of 3", house.net(3, 0), 30);
        house.setRate(0, 1999);
        house.setTariff(0, 60, 1, 0);
        Houses.accepted(house, 0, 3, 60);
        checks.due("each pair rounded down", house.net(0, 0), 199 + 19 + 1 - 20 - 30);
        checks.due("the home owes what is rounded down", house.net(3, 0), 30 - 1);
        house.setRate(1, 50);
        checks.due("in the money of the host", house.net(1, 0), 1 - 199);
        house.nextMonth();
        Houses.accepted(house, 1, 2, 1200);
        checks.due("another month, host", house.net(1, 1), 10);
        checks.due("another month, home", house.net(2, 1), -10);
        checks.due("another month, others", house.net(0, 1), 0);
        for (int wrong : new int[] {-1, 2, 36, Integer.MIN_VALUE, Integer.MAX_VALUE}) {
            checks.illegalArgument("month " + wrong, () -> house.net(0, wrong));
        }
        for (int none : NO_OPERATORS) {
            checks.outOfBounds("operator " + none, () -> house.net(none, 0));
            checks.outOfBounds("all wrong, operator " + none, () -> house.net(none, -1));
        }
        RoamingHouse dear = Houses.dear(3, 2);
        dear.setRate(3, 100000);
        checks.due("as many as there can be", dear.net(3, 0), 216006000000L);
        checks.due("as many as can be owed", dear.net(2, 0), -216006000000L);
    }
}
