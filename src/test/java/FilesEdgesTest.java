/**
 * The sentences of the document on operators, tariffs, files and sending that name a boundary: just on it, and
 * one beyond it. What is refused, and that it changes nothing, is looked at in ArgumentsTest, too.
 */
public final class FilesEdgesTest {
    private static final int DOUBLE = RoamingHouse.DOUBLE;
    private static final int WAITS = RoamingHouse.WAITS;
    private static final int LATE = RoamingHouse.LATE;
    private static final int BAD = RoamingHouse.BAD;
    private static final int ACCEPTED = RoamingHouse.ACCEPTED;

    private final Checks checks = new Checks();

    public static void main(String[] args) {
        FilesEdgesTest test = new FilesEdgesTest();
        test.outermostOperators();
        test.eachPairIsOfItsOwn();
        test.tariffAtFirst();
        test.stepsAreRoundedUp();
        test.leastAndGreatestTariffs();
        test.tariffOfOneHost();
        test.priceBefore();
        test.thirtyFiles();
        test.refusedFilesTakeNoNumber();
        test.sixtyCallsInOneFile();
        test.sixtyCallsInThirtyFiles();
        test.refusedCallsTakeNoNumber();
        test.leastAndGreatestCalls();
        test.callsGoIntoDraftsAlone();
        test.monthInWhichAFileWasBegun();
        test.moreThanTwoMonths();
        test.lateByTheMonthInWhichItIsLookedAt();
        test.numbersFromOneOn();
        test.lowerThanExpected();
        test.aNumberWithWhichOneWaits();
        test.aDoubleFileBegunAheadOfTheOneThatWaits();
        test.aWaitingNumberOfAnotherPair();
        test.doubleAheadOfLateAndBad();
        test.greaterThanExpected();
        test.lateAheadOfBad();
        test.aChainUpToTheGap();
        test.aChainOfLateAndBadOnes();
        test.theLongestChain();
        test.aThirdOfTheCalls();
        test.rightToTheLastDigit();
        test.rightByTheTariffOfNow();
        test.aSentFileIsNotSentAgain();
        test.greatestExpectedNumber();
        test.lackingNone();
        test.lackingAsManyAsThereMayBe();
        test.lackingBetweenWaitingOnes();
        test.noCallsYet();
        test.checks.end("FilesEdgesTest");
    }

    private void outermostOperators() {
        checks.begin("Operators are 0 to 3");
        RoamingHouse house = new RoamingHouse();
        int[][] pairs = {{0, 3}, {3, 0}};
        for (int i = 0; i < 2; i++) {
            int host = pairs[i][0];
            int home = pairs[i][1];
            checks.due("price before", house.setTariff(host, 60, 20 + i, 0), 10);
            checks.due("begin", house.begin(host, home), i);
            checks.due("enter", house.enter(i, 60, house.charge(host, 60)), i);
            checks.due("send", house.send(i, 1), ACCEPTED);
            checks.due("expected", house.expected(host, home), 2);
            checks.due("owed", house.owed(host, home, 0), 20 + i);
            checks.due("promise", house.promise(host, home, 50), 0);
            house.agree(host, home, 0, 5000, false);
            checks.due("discounted", house.owedFor(i), 10 + i);
            checks.due("rate before", house.setRate(host, 2000), 1000);
        }
        checks.due("net of 0", house.net(0, 0), 20 - 22);
        checks.due("net of 3", house.net(3, 0), 22 - 20);
        Houses.letPass(house, 12);
        checks.due("short of 0, 3", house.shortfall(0, 3, 0), 40);
        checks.due("short of 3, 0", house.shortfall(3, 0, 0), 39);
    }

    private void eachPairIsOfItsOwn() {
        checks.begin("a pair is an operator, the host, and another one, the home");
        RoamingHouse house = new RoamingHouse();
        for (int pair = 0; pair < 12; pair++) {
            int host = pair / 3;
            int home = (host + 1 + pair % 3) % 4;
            checks.due("promise", house.promise(host, home, 1000 + pair), 0);
            Houses.accepted(house, host, home, 60 * (pair + 1));
            if (pair % 2 == 0) {
                Houses.accepted(house, host, home, 60);
            }
        }
        Houses.letPass(house, 12);
        for (int pair = 0; pair < 12; pair++) {
            int host = pair / 3;
            int home = (host + 1 + pair % 3) % 4;
            int due = 10 * (pair + 1) + (pair % 2 == 0 ? 10 : 0);
            checks.due("expected of " + host + ", " + home, house.expected(host, home), pair % 2 == 0 ? 3 : 2);
            checks.due("owed of " + host + ", " + home, house.owed(host, home, 0), due);
            checks.due("short of " + host + ", " + home, house.shortfall(host, home, 0), 1000 + pair - due);
            checks.due("promise of " + host + ", " + home, house.promise(host, home, 0), 1000 + pair);
        }
    }

    private void tariffAtFirst() {
        checks.begin("a step in seconds, 60 at first, a price for each step, 10 at first, 0 for the beginning");
        RoamingHouse house = new RoamingHouse();
        int[][] secondsAndCharge = {{1, 10}, {59, 10}, {60, 10}, {61, 20}, {120, 20}, {121, 30}, {36000, 6000}};
        for (int host = 0; host < 4; host++) {
            for (int[] row : secondsAndCharge) {
                checks.due("host " + host + ", seconds " + row[0], house.charge(host, row[0]), row[1]);
            }
            checks.due("price before", house.setTariff(host, 60, 11, 0), 10);
        }
    }

    private void stepsAreRoundedUp() {
        checks.begin("the seconds divided by the step, rounded up");
        RoamingHouse house = new RoamingHouse();
        int[][] stepAndMostSteps = {{1, 36000}, {2, 18000}, {7, 5143}, {59, 611}, {60, 600}, {599, 61}, {600, 60}};
        for (int[] row : stepAndMostSteps) {
            int step = row[0];
            house.setTariff(0, step, 1, 0);
            checks.due("step " + step + ", 1 second", house.charge(0, 1), 1);
            checks.due("step " + step + ", the longest call", house.charge(0, 36000), row[1]);
            for (int steps = 2; steps <= 20; steps += 9) {
                checks.due("step " + step + ", just so", house.charge(0, steps * step), steps);
                checks.due("step " + step + ", one above", house.charge(0, steps * step + 1), steps + 1);
                int below = step == 1 ? steps - 1 : steps;
                checks.due("step " + step + ", one below", house.charge(0, steps * step - 1), below);
            }
        }
    }

    private void leastAndGreatestTariffs() {
        checks.begin("step: 1 to 600, price: 0 to 1000, beginning: 0 to 1000");
        RoamingHouse house = new RoamingHouse();
        house.setTariff(2, 1, 1000, 1000);
        checks.due("the shortest call, the dearest tariff", house.charge(2, 1), 2000);
        checks.due("the longest call, the dearest tariff", house.charge(2, 36000), 36001000);
        house.setTariff(2, 600, 1000, 0);
        checks.due("600 seconds", house.charge(2, 600), 1000);
        checks.due("601 seconds", house.charge(2, 601), 2000);
        house.setTariff(2, 1, 0, 1000);
        checks.due("the beginning alone", house.charge(2, 36000), 1000);
        house.setTariff(2, 600, 0, 0);
        checks.due("nothing", house.charge(2, 1), 0);
        checks.due("nothing for the longest call", house.charge(2, 36000), 0);
    }

    private void tariffOfOneHost() {
        checks.begin("Sets the tariff of a host");
        for (int host = 0; host < 4; host++) {
            RoamingHouse house = new RoamingHouse();
            house.setTariff(host, 30, 3, 1);
            for (int other = 0; other < 4; other++) {
                checks.due("host " + other + " of " + host, house.charge(other, 61), other == host ? 10 : 20);
            }
        }
    }

    private void priceBefore() {
        checks.begin("Returns the price of a step before");
        RoamingHouse house = new RoamingHouse();
        checks.due("at first", house.setTariff(1, 600, 0, 1000), 10);
        checks.due("the least", house.setTariff(1, 600, 1000, 0), 0);
        checks.illegalArgument("a beginning of 1001", () -> house.setTariff(1, 1, 5, 1001));
        checks.due("the greatest", house.setTariff(1, 1, 7, 7), 1000);
        checks.due("the same price again", house.setTariff(1, 2, 7, 8), 7);
        checks.due("of another host", house.setTariff(2, 2, 7, 8), 10);
    }

    private void thirtyFiles() {
        checks.begin("There can be 30 files, numbered from 0");
        RoamingHouse house = new RoamingHouse();
        for (int file = 0; file < 30; file++) {
            int toCome = file + 1;
            checks.due("file", house.begin(0, 1), file);
            checks.due("a file that was begun", house.stateOf(file), RoamingHouse.DRAFT);
            checks.outOfBounds("a file to come", () -> house.stateOf(toCome));
            house.enter(file, 60, file % 2 == 0 ? 10 : 11);
            // What was sent, be it accepted or bad, makes no room for another one.
            house.send(file, file + 1);
        }
        for (int home = 1; home < 4; home++) {
            int other = home;
            checks.illegalState("the 31st file", () -> house.begin(0, other));
        }
        checks.outOfBounds("state of the 31st file", () -> house.stateOf(30));
        checks.due("the last file", house.stateOf(29), BAD);
        checks.due("the first file", house.stateOf(0), ACCEPTED);
    }

    private void refusedFilesTakeNoNumber() {
        checks.begin("begin, a call that throws changes nothing");
        RoamingHouse house = new RoamingHouse();
        checks.illegalArgument("both the same", () -> house.begin(1, 1));
        checks.outOfBounds("no such home", () -> house.begin(1, 4));
        checks.due("the first file", house.begin(1, 0), 0);
        checks.illegalArgument("both the same", () -> house.begin(3, 3));
        checks.due("the second file", house.begin(0, 1), 1);
        checks.outOfBounds("no third file", () -> house.stateOf(2));
    }

    private void sixtyCallsInOneFile() {
        checks.begin("60 calls in all of them, numbered from 0, in one file");
        RoamingHouse house = new RoamingHouse();
        int file = house.begin(0, 1);
        int empty = house.begin(0, 1);
        for (int call = 0; call < 60; call++) {
            checks.due("calls", house.calls(), call);
            checks.due("call", house.enter(file, 60, 10), call);
        }
        checks.due("calls", house.calls(), 60);
        checks.illegalState("the 61st call", () -> house.enter(file, 60, 10));
        checks.illegalState("the 61st call, in another file", () -> house.enter(empty, 60, 10));
        checks.outOfBounds("what the 61st call is", () -> house.call(60));
        checks.due("send", house.send(file, 1), ACCEPTED);
        checks.illegalState("the 61st call, behind sending", () -> house.enter(empty, 60, 10));
        checks.illegalState("a file that stays empty", () -> house.send(empty, 2));
        checks.due("the last call", house.call(59), RoamingHouse.OWED);
        checks.due("owed", house.owed(0, 1, 0), 600);
    }

    private void sixtyCallsInThirtyFiles() {
        checks.begin("60 calls in all of them, numbered from 0, in 30 files");
        RoamingHouse house = new RoamingHouse();
        for (int file = 0; file < 30; file++) {
            house.begin(file % 2 == 0 ? 2 : 0, 1);
        }
        for (int call = 0; call < 60; call++) {
            checks.due("call", house.enter(call % 30, 60, 10), call);
        }
        checks.illegalState("the 61st call", () -> house.enter(29, 60, 10));
        for (int file = 0; file < 30; file++) {
            checks.due("send", house.send(file, file / 2 + 1), ACCEPTED);
        }
        checks.due("owed to 2", house.owed(2, 1, 0), 300);
        checks.due("owed to 0", house.owed(0, 1, 0), 300);
    }

    private void refusedCallsTakeNoNumber() {
        checks.begin("enter, a call that throws changes nothing");
        RoamingHouse house = new RoamingHouse();
        int file = house.begin(0, 1);
        checks.illegalArgument("0 seconds", () -> house.enter(file, 0, 10));
        checks.illegalArgument("told -1", () -> house.enter(file, 60, -1));
        checks.outOfBounds("no such file", () -> house.enter(file + 1, 60, 10));
        checks.due("calls", house.calls(), 0);
        checks.illegalState("still without calls", () -> house.send(file, 1));
        checks.due("the first call", house.enter(file, 60, 10), 0);
        checks.illegalArgument("told too much", () -> house.enter(file, 60, 50000001));
        checks.due("accepted, without what was refused", house.send(file, 1), ACCEPTED);
        checks.illegalState("not a draft", () -> house.enter(file, 60, 10));
        checks.due("calls", house.calls(), 1);
        checks.due("the second call", house.enter(house.begin(0, 1), 60, 10), 1);
    }

    private void leastAndGreatestCalls() {
        checks.begin("seconds: 1 to 36000, told: 0 to 50000000");
        RoamingHouse house = new RoamingHouse();
        house.setTariff(0, 600, 0, 0);
        int file = house.begin(0, 1);
        checks.due("the least", house.enter(file, 1, 0), 0);
        checks.due("the longest for nothing", house.enter(file, 36000, 0), 1);
        checks.due("the greatest", house.enter(file, 36000, 50000000), 2);
        checks.due("send", house.send(file, 1), ACCEPTED);
        checks.due("accepted, for nothing", house.call(0), RoamingHouse.OWED);
        checks.due("owed for nothing", house.owedFor(0), 0);
        checks.due("told too much", house.call(2), RoamingHouse.OUTSIDE);
    }

    private void callsGoIntoDraftsAlone() {
        checks.begin("Puts a call into a file that is DRAFT");
        int[][] numberWrongCallsMonthsAndState = {
            {1, 0, 0, DOUBLE}, {3, 0, 0, WAITS}, {2, 0, 3, LATE}, {2, 1, 0, BAD}, {2, 0, 0, ACCEPTED},
        };
        for (int[] row : numberWrongCallsMonthsAndState) {
            RoamingHouse house = new RoamingHouse();
            Houses.accepted(house, 0, 1, 60);
            int file = Houses.draftWithWrongCalls(house, 0, 1, 1, row[1]);
            Houses.letPass(house, row[2]);
            checks.due("enter into a draft", house.enter(file, 60, 10), 2);
            checks.due("send", house.send(file, row[0]), row[3]);
            checks.illegalState("enter into a file that is " + row[3], () -> house.enter(file, 60, 10));
            checks.due("calls", house.calls(), 3);
            checks.due("state", house.stateOf(file), row[3]);
        }
    }

    private void monthInWhichAFileWasBegun() {
        checks.begin("it has the month in which it was begun");
        RoamingHouse house = new RoamingHouse();
        int early = house.begin(0, 1);
        house.nextMonth();
        int later = house.begin(0, 1);
        house.nextMonth();
        // The month of a call, or of the last call, does not count.
        house.enter(early, 60, 10);
        house.enter(later, 60, 10);
        house.nextMonth();
        house.enter(early, 60, 10);
        checks.due("begun 3 months ago, entered now", house.send(early, 1), LATE);
        checks.due("begun 2 months ago", house.send(later, 2), ACCEPTED);
    }

    private void moreThanTwoMonths() {
        checks.begin("LATE, if the month of now is more than 2 above its month");
        int[][] begunSentAndState = {
            {0, 0, ACCEPTED}, {0, 1, ACCEPTED}, {0, 2, ACCEPTED}, {0, 3, LATE}, {0, 35, LATE},
            {10, 12, ACCEPTED}, {10, 13, LATE}, {11, 13, ACCEPTED}, {11, 14, LATE},
            {32, 34, ACCEPTED}, {32, 35, LATE}, {33, 35, ACCEPTED}, {35, 35, ACCEPTED},
        };
        for (int[] row : begunSentAndState) {
            RoamingHouse house = Houses.inMonth(row[0]);
            int file = Houses.draft(house, 2, 0, 1);
            Houses.letPass(house, row[1] - row[0]);
            checks.due("begun in " + row[0] + ", sent in " + row[1], house.send(file, 1), row[2]);
            checks.due("the number expected then", house.expected(2, 0), 2);
            checks.due("month of its call", house.monthOf(0), row[2] == LATE ? RoamingHouse.NONE : row[1]);
        }
    }

    private void lateByTheMonthInWhichItIsLookedAt() {
        checks.begin("A file that is looked at is LATE");
        for (int months = 2; months <= 3; months++) {
            RoamingHouse house = new RoamingHouse();
            int file = Houses.draft(house, 0, 1, 1);
            checks.due("sent in time", house.send(file, 2), WAITS);
            Houses.letPass(house, months);
            checks.due("still waits after " + months, house.stateOf(file), WAITS);
            Houses.accepted(house, 0, 1, 60);
            checks.due("looked at after " + months, house.stateOf(file), months == 2 ? ACCEPTED : LATE);
            checks.due("month of its call", house.monthOf(0), months == 2 ? 2 : RoamingHouse.NONE);
        }
    }

    private void numbersFromOneOn() {
        checks.begin("A file is sent with a number, from 1 on; number: 1 to 99");
        RoamingHouse house = new RoamingHouse();
        int file = Houses.draft(house, 0, 1, 1);
        int last = Houses.draft(house, 0, 1, 1);
        checks.illegalArgument("number 0", () -> house.send(file, 0));
        checks.illegalArgument("number 100", () -> house.send(file, 100));
        checks.due("still a draft", house.stateOf(file), RoamingHouse.DRAFT);
        checks.due("number 99", house.send(last, 99), WAITS);
        checks.due("number 1", house.send(file, 1), ACCEPTED);
        checks.due("number 99 still waits", house.stateOf(last), WAITS);
    }

    private void lowerThanExpected() {
        checks.begin("If its number is lower than the expected one, it is DOUBLE");
        RoamingHouse house = new RoamingHouse();
        checks.due("no number is lower at first", house.send(Houses.draft(house, 0, 1, 1), 1), ACCEPTED);
        Houses.accepted(house, 0, 1, 60);
        Houses.accepted(house, 0, 1, 60);
        checks.due("expected", house.expected(0, 1), 4);
        checks.due("number 1", house.send(Houses.draft(house, 0, 1, 1), 1), DOUBLE);
        checks.due("one lower", house.send(Houses.draft(house, 0, 1, 1), 3), DOUBLE);
        checks.due("expected still", house.expected(0, 1), 4);
        checks.due("a call of a double file", house.call(4), RoamingHouse.OUTSIDE);
        checks.due("the month of a double file's call", house.monthOf(4), RoamingHouse.NONE);
        checks.due("owed for a double file's call", house.owedFor(4), 0);
        checks.due("the expected one", house.send(Houses.draft(house, 0, 1, 1), 4), ACCEPTED);
        checks.due("owed in all", house.owed(0, 1, 0), 40);
    }

    private void aNumberWithWhichOneWaits() {
        checks.begin("a file of the pair waits with this number: it is DOUBLE");
        RoamingHouse house = new RoamingHouse();
        int draft = Houses.draft(house, 0, 1, 1);
        int waiting = Houses.draft(house, 0, 1, 1);
        int twice = Houses.draft(house, 0, 1, 1);
        checks.due("waits", house.send(waiting, 3), WAITS);
        checks.due("the same number", house.send(twice, 3), DOUBLE);
        checks.due("one below it", house.send(Houses.draft(house, 0, 1, 1), 2), WAITS);
        checks.due("one above it", house.send(Houses.draft(house, 0, 1, 1), 4), WAITS);
        checks.due("the one that waits", house.stateOf(waiting), WAITS);
        checks.due("the gap is filled", house.send(draft, 1), ACCEPTED);
        checks.due("looked at", house.stateOf(waiting), ACCEPTED);
        checks.due("double for good", house.stateOf(twice), DOUBLE);
        checks.due("the same number again", house.send(Houses.draft(house, 0, 1, 1), 3), DOUBLE);
        checks.due("owed without double ones", house.owed(0, 1, 0), 40);
    }

    private void aDoubleFileBegunAheadOfTheOneThatWaits() {
        checks.begin("a file of the pair waits with this number: the double one is not looked at in its place");
        RoamingHouse house = new RoamingHouse();
        int twice = Houses.draft(house, 0, 1, 1);
        int first = Houses.draft(house, 0, 1, 1);
        int waiting = Houses.draft(house, 0, 1, 2);
        checks.due("waits", house.send(waiting, 2), WAITS);
        checks.due("the same number", house.send(twice, 2), DOUBLE);
        checks.due("lacking", house.lacking(0, 1), 1);
        checks.due("the gap is filled", house.send(first, 1), ACCEPTED);
        checks.due("looked at", house.stateOf(waiting), ACCEPTED);
        checks.due("double for good", house.stateOf(twice), DOUBLE);
        checks.due("expected", house.expected(0, 1), 3);
        checks.due("owed without the double one", house.owed(0, 1, 0), 30);
        checks.due("its call", house.call(0), RoamingHouse.OUTSIDE);
    }

    private void aWaitingNumberOfAnotherPair() {
        checks.begin("a file of the pair waits with this number: not of another pair");
        RoamingHouse house = new RoamingHouse();
        house.send(Houses.draft(house, 0, 1, 1), 2);
        checks.due("host and home changed", house.send(Houses.draft(house, 1, 0, 1), 2), WAITS);
        checks.due("another home", house.send(Houses.draft(house, 0, 2, 1), 2), WAITS);
        checks.due("another host", house.send(Houses.draft(house, 2, 1, 1), 2), WAITS);
        house.send(Houses.draft(house, 0, 1, 1), 1);
        checks.due("its own", house.stateOf(0), ACCEPTED);
        for (int file = 1; file < 4; file++) {
            checks.due("of another pair", house.stateOf(file), WAITS);
        }
        checks.due("a waiting number, expected by another pair", house.send(Houses.draft(house, 3, 1, 1), 2), WAITS);
    }

    private void doubleAheadOfLateAndBad() {
        checks.begin("If its number is lower, it is DOUBLE: it is not looked at");
        RoamingHouse house = new RoamingHouse();
        int late = Houses.draftWithWrongCalls(house, 0, 1, 1, 1);
        int lateToo = Houses.draftWithWrongCalls(house, 0, 1, 1, 1);
        Houses.letPass(house, 3);
        Houses.accepted(house, 0, 1, 60);
        house.send(Houses.draft(house, 0, 1, 1), 5);
        checks.due("lower, late and bad", house.send(late, 1), DOUBLE);
        checks.due("waiting number, late and bad", house.send(lateToo, 5), DOUBLE);
        int third = Houses.draftWithWrongCalls(house, 0, 1, 1, 1);
        Houses.letPass(house, 3);
        checks.due("greater, late and bad", house.send(third, 4), WAITS);
    }

    private void lateAheadOfBad() {
        checks.begin("LATE, if the month of now is more than 2 above its month. Otherwise each of its calls is right");
        for (int months = 2; months <= 3; months++) {
            RoamingHouse house = new RoamingHouse();
            int file = Houses.draftWithWrongCalls(house, 0, 1, 2, 2);
            Houses.letPass(house, months);
            checks.due("all calls wrong, after " + months, house.send(file, 1), months == 2 ? BAD : LATE);
        }
    }

    private void greaterThanExpected() {
        checks.begin("If its number is greater than the expected one, it WAITS");
        RoamingHouse house = new RoamingHouse();
        Houses.accepted(house, 0, 1, 60);
        int waiting = Houses.draft(house, 0, 1, 1);
        checks.due("one greater", house.send(waiting, 3), WAITS);
        checks.due("expected still", house.expected(0, 1), 2);
        checks.due("its call", house.call(1), RoamingHouse.OUTSIDE);
        checks.due("month of its call", house.monthOf(1), RoamingHouse.NONE);
        checks.due("owed for its call", house.owedFor(1), 0);
        checks.due("owed", house.owed(0, 1, 0), 10);
        checks.illegalState("dispute of its call", () -> house.dispute(1));
    }

    private void aChainUpToTheGap() {
        checks.begin("as long as a file of the pair waits with the number that is expected, this one is looked at");
        RoamingHouse house = new RoamingHouse();
        int[] numbers = {5, 3, 2, 6};
        for (int i = 0; i < 4; i++) {
            checks.due("number " + numbers[i], house.send(Houses.draft(house, 0, 1, 1), numbers[i]), WAITS);
        }
        checks.due("number 1", house.send(Houses.draft(house, 0, 1, 1), 1), ACCEPTED);
        int[] statesAfterOne = {WAITS, ACCEPTED, ACCEPTED, WAITS};
        for (int i = 0; i < 4; i++) {
            checks.due("number " + numbers[i] + " after 1", house.stateOf(i), statesAfterOne[i]);
        }
        checks.due("expected", house.expected(0, 1), 4);
        checks.due("number 4", house.send(Houses.draft(house, 0, 1, 1), 4), ACCEPTED);
        for (int i = 0; i < 4; i++) {
            checks.due("number " + numbers[i] + " after 4", house.stateOf(i), ACCEPTED);
        }
        checks.due("expected", house.expected(0, 1), 7);
    }

    private void aChainOfLateAndBadOnes() {
        checks.begin("it is looked at, and the pair expects the next number, be it LATE, BAD or ACCEPTED");
        RoamingHouse house = new RoamingHouse();
        int late = Houses.draft(house, 0, 1, 1);
        int first = Houses.draft(house, 0, 1, 1);
        house.send(late, 3);
        Houses.letPass(house, 3);
        int bad = Houses.draftWithWrongCalls(house, 0, 1, 2, 1);
        int good = Houses.draftWithWrongCalls(house, 0, 1, 3, 1);
        house.send(bad, 2);
        house.send(good, 4);
        checks.due("late itself", house.send(first, 1), LATE);
        checks.due("bad behind a late one", house.stateOf(bad), BAD);
        checks.due("late behind a bad one", house.stateOf(late), LATE);
        checks.due("accepted behind a late one", house.stateOf(good), ACCEPTED);
        checks.due("expected", house.expected(0, 1), 5);
        checks.due("owed", house.owed(0, 1, 3), 20);
    }

    private void theLongestChain() {
        checks.begin("and so on, as many files as there may be");
        RoamingHouse house = new RoamingHouse();
        for (int file = 0; file < 29; file++) {
            checks.due("waits", house.send(Houses.draft(house, 0, 1, 2), file + 2), WAITS);
        }
        checks.due("the first one", house.send(Houses.draft(house, 0, 1, 2), 1), ACCEPTED);
        for (int file = 0; file < 30; file++) {
            checks.due("looked at", house.stateOf(file), ACCEPTED);
        }
        checks.due("expected", house.expected(0, 1), 31);
        checks.due("owed", house.owed(0, 1, 0), 600);
    }

    private void aThirdOfTheCalls() {
        checks.begin("If the calls that are not right, times 3, are more than its calls, it is BAD");
        int[][] callsWrongAndState = {
            {1, 0, ACCEPTED}, {1, 1, BAD}, {2, 0, ACCEPTED}, {2, 1, BAD}, {3, 1, ACCEPTED}, {3, 2, BAD},
            {4, 1, ACCEPTED}, {4, 2, BAD}, {5, 1, ACCEPTED}, {5, 2, BAD}, {6, 2, ACCEPTED}, {6, 3, BAD},
            {59, 19, ACCEPTED}, {59, 20, BAD}, {60, 0, ACCEPTED}, {60, 20, ACCEPTED}, {60, 21, BAD}, {60, 60, BAD},
        };
        for (int[] row : callsWrongAndState) {
            RoamingHouse house = new RoamingHouse();
            int file = Houses.draftWithWrongCalls(house, 0, 1, row[0], row[1]);
            String what = row[1] + " wrong of " + row[0];
            checks.due(what, house.send(file, 1), row[2]);
            checks.due("state, " + what, house.stateOf(file), row[2]);
            checks.due("expected, " + what, house.expected(0, 1), 2);
            boolean isAccepted = row[2] == ACCEPTED;
            for (int call = 0; call < row[0]; call++) {
                boolean isOwed = isAccepted && call >= row[1];
                checks.due("call, " + what, house.call(call), isOwed ? RoamingHouse.OWED : RoamingHouse.OUTSIDE);
                checks.due("month, " + what, house.monthOf(call), isOwed ? 0 : RoamingHouse.NONE);
                checks.due("owed for it, " + what, house.owedFor(call), isOwed ? 10 : 0);
            }
            checks.due("owed, " + what, house.owed(0, 1, 0), isAccepted ? 10 * (row[0] - row[1]) : 0);
        }
    }

    private void rightToTheLastDigit() {
        checks.begin("each of its calls is right, if the charge that is told is its charge");
        RoamingHouse house = new RoamingHouse();
        house.setTariff(0, 1, 1000, 1000);
        int[] told = {36001000, 36000999, 36001001, 0, 50000000};
        for (int i = 0; i < told.length; i++) {
            int file = house.begin(0, 1);
            house.enter(file, 36000, told[i]);
            checks.due("told " + told[i], house.send(file, i + 1), i == 0 ? ACCEPTED : BAD);
        }
    }

    private void rightByTheTariffOfNow() {
        checks.begin("its charge by the tariff of now");
        RoamingHouse house = new RoamingHouse();
        int[] waiting = {Houses.draft(house, 0, 1, 1), Houses.draft(house, 0, 1, 1), Houses.draft(house, 0, 1, 1)};
        house.send(waiting[1], 2);
        house.setTariff(0, 60, 11, 0);
        checks.due("by the price when it was entered", house.send(waiting[0], 1), BAD);
        checks.due("by the price when it was sent", house.stateOf(waiting[1]), BAD);
        house.setTariff(0, 1, 0, 10);
        checks.due("by another tariff with the same charge", house.send(waiting[2], 3), ACCEPTED);
        house.setTariff(0, 60, 500, 500);
        checks.due("owed as it was told", house.owedFor(2), 10);
        house.agree(0, 1, 1000000, 5000, false);
        checks.due("owed as it was told, too few seconds for a discount", house.owedFor(2), 10);
        house.agree(0, 1, 0, 5000, false);
        checks.due("owed as it was told, discounted", house.owedFor(2), 5);
        house.setTariff(1, 60, 12, 0);
        int ofHome = house.begin(0, 1);
        house.enter(ofHome, 60, 12);
        checks.due("by the tariff of the home", house.send(ofHome, 4), BAD);
    }

    private void aSentFileIsNotSentAgain() {
        checks.begin("Throws IllegalStateException if it is not DRAFT, or has no calls");
        RoamingHouse house = new RoamingHouse();
        int empty = house.begin(0, 1);
        checks.illegalState("without calls", () -> house.send(empty, 1));
        checks.due("still a draft", house.stateOf(empty), RoamingHouse.DRAFT);
        checks.due("still expected", house.expected(0, 1), 1);
        house.enter(empty, 60, 10);
        checks.due("with a call", house.send(empty, 1), ACCEPTED);
        int waiting = Houses.draft(house, 0, 1, 1);
        house.send(waiting, 4);
        checks.illegalState("waits, and another number", () -> house.send(waiting, 3));
        checks.illegalState("waits, and the expected number", () -> house.send(waiting, 2));
        checks.due("lacking still", house.lacking(0, 1), 2);
        int twice = Houses.draft(house, 0, 1, 1);
        house.send(twice, 1);
        checks.illegalState("double, and the expected number", () -> house.send(twice, 2));
        int bad = Houses.draftWithWrongCalls(house, 0, 1, 1, 1);
        house.send(bad, 2);
        house.setTariff(0, 60, 11, 0);
        checks.illegalState("bad, even if it would be right now", () -> house.send(bad, 3));
        checks.due("bad still", house.stateOf(bad), BAD);
        checks.due("expected", house.expected(0, 1), 3);
    }

    private void greatestExpectedNumber() {
        checks.begin("Returns the number that a pair expects, after as many files as there may be");
        RoamingHouse house = new RoamingHouse();
        for (int file = 0; file < 30; file++) {
            checks.due("expected", house.expected(3, 2), file + 1);
            house.send(Houses.draftWithWrongCalls(house, 3, 2, 1, file % 2), file + 1);
        }
        checks.due("expected", house.expected(3, 2), 31);
        checks.due("the other way round", house.expected(2, 3), 1);
    }

    private void lackingNone() {
        checks.begin("Returns how many; 0 if no file waits");
        RoamingHouse house = new RoamingHouse();
        checks.due("no file", house.lacking(0, 1), 0);
        house.begin(0, 1);
        checks.due("a draft without calls", house.lacking(0, 1), 0);
        Houses.accepted(house, 0, 1, 60);
        checks.due("an accepted file", house.lacking(0, 1), 0);
        house.send(Houses.draft(house, 0, 1, 1), 1);
        checks.due("a double file", house.lacking(0, 1), 0);
        house.send(Houses.draft(house, 0, 2, 1), 2);
        checks.due("a file of another pair", house.lacking(0, 1), 0);
        house.send(Houses.draft(house, 1, 0, 1), 2);
        checks.due("a file of the other way round", house.lacking(0, 1), 0);
    }

    private void lackingAsManyAsThereMayBe() {
        checks.begin("from the expected one up to the greatest one with which a file waits");
        RoamingHouse house = new RoamingHouse();
        house.send(Houses.draft(house, 0, 1, 1), 2);
        checks.due("the expected one alone", house.lacking(0, 1), 1);
        house.send(Houses.draft(house, 0, 1, 1), 99);
        checks.due("1 and 3 to 98", house.lacking(0, 1), 97);
        house.send(Houses.draft(house, 0, 2, 1), 99);
        checks.due("1 to 98", house.lacking(0, 2), 98);
        Houses.accepted(house, 0, 1, 60);
        checks.due("3 to 98", house.lacking(0, 1), 96);
        Houses.accepted(house, 0, 2, 60);
        checks.due("2 to 98", house.lacking(0, 2), 97);
    }

    private void lackingBetweenWaitingOnes() {
        checks.begin("those with which none waits");
        RoamingHouse house = new RoamingHouse();
        int[][] numberAndLacking = {{4, 3}, {3, 2}, {7, 4}, {3, 4}, {5, 3}, {2, 2}, {1, 1}, {6, 0}, {9, 1}, {8, 0}};
        for (int[] row : numberAndLacking) {
            house.send(Houses.draft(house, 0, 1, 1), row[0]);
            checks.due("after number " + row[0], house.lacking(0, 1), row[1]);
        }
        checks.due("expected", house.expected(0, 1), 10);
    }

    private void noCallsYet() {
        checks.begin("Returns how many calls there are, in all files; 0 to 60");
        RoamingHouse house = new RoamingHouse();
        checks.due("calls of a new house", house.calls(), 0);
        checks.outOfBounds("the first call of a new house", () -> house.call(0));
        checks.outOfBounds("its month", () -> house.monthOf(0));
        checks.outOfBounds("what is owed for it", () -> house.owedFor(0));
        checks.outOfBounds("its dispute", () -> house.dispute(0));
        checks.outOfBounds("its answer", () -> house.answer(0, true));
        Houses.draftWithWrongCalls(house, 0, 1, 2, 1);
        house.send(0, 1);
        checks.due("calls of a bad file", house.calls(), 2);
        checks.due("the last call there is", house.call(1), RoamingHouse.OUTSIDE);
        checks.outOfBounds("one beyond it", () -> house.call(2));
    }
}
