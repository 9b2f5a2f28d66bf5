/**
 * The sentences of the document on months, promises, rates and nets that name a boundary: just on it, and one
 * beyond it. What is refused, and that it changes nothing, is looked at in ArgumentsTest, too.
 */
public final class OwedEdgesTest {
    private final Checks checks = new Checks();

    public static void main(String[] args) {
        OwedEdgesTest test = new OwedEdgesTest();
        test.newObject();
        test.firstAndLastMonth();
        test.refusedMonthChangesNothing();
        test.monthOfNowAndOneBeyond();
        test.owedOfEachMonth();
        test.nothingOwedYet();
        test.greatestAmount();
        test.promiseAtFirst();
        test.promiseBefore();
        test.shortIfAboveZero();
        test.aYearThatIsOver();
        test.yearsZeroAndOne();
        test.monthsOfTheYearThatFallsShort();
        test.whatIsOwedLessensWhatFallsShort();
        test.aGreatAmountIsNotShort();
        test.rateAtFirst();
        test.rateBefore();
        test.rateForAllMonths();
        test.unitsRoundedDown();
        test.unitsRoundedForEachPair();
        test.rateOfTheHost();
        test.netOfNothing();
        test.netsOfAllOperators();
        test.greatestNet();
        test.checks.end("OwedEdgesTest");
    }

    private void newObject() {
        checks.begin("Begins in the month 0 without files");
        RoamingHouse house = new RoamingHouse();
        checks.due("month", house.month(), 0);
        checks.due("calls", house.calls(), 0);
        checks.outOfBounds("file 0", () -> house.stateOf(0));
        checks.outOfBounds("enter into file 0", () -> house.enter(0, 60, 10));
        checks.outOfBounds("send file 0", () -> house.send(0, 1));
        Houses.accepted(house, 0, 1, 60);
        house.nextMonth();
        RoamingHouse another = new RoamingHouse();
        checks.due("month of another object", another.month(), 0);
        checks.due("calls of another object", another.calls(), 0);
        checks.due("expected of another object", another.expected(0, 1), 1);
        checks.outOfBounds("file 0 of another object", () -> another.stateOf(0));
    }

    private void firstAndLastMonth() {
        checks.begin("it is the month 0 at first, and month 35 is the last one");
        RoamingHouse house = new RoamingHouse();
        for (int month = 0; month < 35; month++) {
            checks.due("month", house.month(), month);
            checks.due("next month", house.nextMonth(), month + 1);
        }
        checks.due("the last month", house.month(), 35);
        checks.illegalState("behind the last month", house::nextMonth);
        checks.due("the last month", house.month(), 35);
        checks.illegalState("behind the last month, again", house::nextMonth);
        checks.due("the last month", house.month(), 35);
    }

    private void refusedMonthChangesNothing() {
        checks.begin("nextMonth, a call that throws changes nothing");
        RoamingHouse house = Houses.inMonth(35);
        Houses.accepted(house, 0, 1, 60);
        int draft = Houses.draft(house, 0, 1, 1);
        for (int tries = 0; tries < 4; tries++) {
            checks.illegalState("behind the last month", house::nextMonth);
        }
        checks.illegalArgument("owed in the month 36", () -> house.owed(0, 1, 36));
        checks.illegalArgument("net in the month 36", () -> house.net(0, 36));
        house.dispute(0);
        checks.due("disputed in its month", house.call(0), RoamingHouse.DISPUTED);
        checks.due("sent in its month", house.send(draft, 2), RoamingHouse.ACCEPTED);
        checks.due("month", house.monthOf(1), 35);
    }

    private void monthOfNowAndOneBeyond() {
        checks.begin("month: 0 to the month of now");
        for (int now : new int[] {0, 1, 11, 12, 34, 35}) {
            RoamingHouse house = Houses.inMonth(now);
            Houses.accepted(house, 0, 1, 60);
            checks.due("owed in " + now, house.owed(0, 1, now), 10);
            checks.due("net in " + now, house.net(0, now), 10);
            checks.due("owed in 0", house.owed(0, 1, 0), now == 0 ? 10 : 0);
            checks.due("net in 0", house.net(0, 0), now == 0 ? 10 : 0);
            checks.illegalArgument("owed in -1", () -> house.owed(0, 1, -1));
            checks.illegalArgument("net in -1", () -> house.net(0, -1));
            checks.illegalArgument("owed beyond " + now, () -> house.owed(0, 1, now + 1));
            checks.illegalArgument("net beyond " + now, () -> house.net(0, now + 1));
        }
    }

    private void owedOfEachMonth() {
        checks.begin("what the home owes the host for the calls that were accepted in a month");
        RoamingHouse house = new RoamingHouse();
        for (int month = 0; month < 30; month++) {
            Houses.accepted(house, 0, 1, 60 * (month + 1));
            house.nextMonth();
        }
        for (int month = 0; month <= 30; month++) {
            int due = month < 30 ? 10 * (month + 1) : 0;
            checks.due("owed in " + month, house.owed(0, 1, month), due);
            checks.due("net in " + month, house.net(1, month), -due);
        }
        RoamingHouse waits = new RoamingHouse();
        waits.send(Houses.draft(waits, 0, 1, 1), 2);
        waits.nextMonth();
        Houses.accepted(waits, 0, 1, 60);
        checks.due("the month in which it was sent", waits.owed(0, 1, 0), 0);
        checks.due("the month in which it was accepted", waits.owed(0, 1, 1), 20);
    }

    private void nothingOwedYet() {
        checks.begin("Returns the amount, 0 if there are none");
        RoamingHouse house = new RoamingHouse();
        for (int host = 0; host < 4; host++) {
            for (int home = 0; home < 4; home++) {
                if (home != host) {
                    checks.due("owed of " + host + ", " + home, house.owed(host, home, 0), 0);
                }
            }
        }
        Houses.draft(house, 0, 1, 1);
        checks.due("owed for a draft", house.owed(0, 1, 0), 0);
        house.send(Houses.draft(house, 0, 1, 1), 2);
        checks.due("owed for one that waits", house.owed(0, 1, 0), 0);
        house.send(Houses.draftWithWrongCalls(house, 0, 1, 1, 1), 1);
        checks.due("owed for one that was bad", house.owed(0, 1, 0), 10);
    }

    private void greatestAmount() {
        checks.begin("Returns the amount, as great as there may be");
        RoamingHouse house = Houses.dear(0, 3);
        checks.due("owed", house.owed(0, 3, 0), 2160060000L);
        checks.due("net of the host", house.net(0, 0), 2160060000L);
        checks.due("net of the home", house.net(3, 0), -2160060000L);
        house.agree(0, 3, 0, 1, true);
        checks.due("a ten thousandth less", house.owed(0, 3, 0), 2160060000L - 60 * 3600);
    }

    private void promiseAtFirst() {
        checks.begin("A pair can have a promise, 0 at first");
        RoamingHouse house = Houses.inMonth(24);
        for (int year = 0; year <= 1; year++) {
            checks.due("short without a promise, year " + year, house.shortfall(0, 1, year), 0);
        }
        checks.due("promise before", house.promise(0, 1, 1), 0);
        for (int year = 0; year <= 1; year++) {
            checks.due("short, year " + year, house.shortfall(0, 1, year), 1);
        }
    }

    private void promiseBefore() {
        checks.begin("promise: 0 to 100000000; returns the promise before");
        RoamingHouse house = Houses.inMonth(12);
        checks.due("at first", house.promise(3, 0, 100000000), 0);
        checks.due("the greatest falls short", house.shortfall(3, 0, 0), 100000000);
        checks.illegalArgument("one above", () -> house.promise(3, 0, 100000001));
        checks.illegalArgument("one below", () -> house.promise(3, 0, -1));
        checks.outOfBounds("no such home", () -> house.promise(3, 4, 1));
        checks.illegalArgument("both the same", () -> house.promise(3, 3, 1));
        checks.due("the greatest", house.promise(3, 0, 0), 100000000);
        checks.due("the least falls not short", house.shortfall(3, 0, 0), 0);
        checks.due("the least", house.promise(3, 0, 5), 0);
        checks.due("of the other way round", house.promise(0, 3, 6), 0);
        checks.due("of the same again", house.promise(3, 0, 5), 5);
    }

    private void shortIfAboveZero() {
        checks.begin("the promise less all that is owed for this year, if that is above 0");
        RoamingHouse house = new RoamingHouse();
        Houses.accepted(house, 0, 1, 600);
        Houses.letPass(house, 12);
        int[][] promiseAndShort = {{0, 0}, {1, 0}, {99, 0}, {100, 0}, {101, 1}, {102, 2}, {100000000, 99999900}};
        for (int[] row : promiseAndShort) {
            house.promise(0, 1, row[0]);
            checks.due("promise " + row[0], house.shortfall(0, 1, 0), row[1]);
        }
    }

    private void aYearThatIsOver() {
        checks.begin("Throws IllegalStateException if the year is not over");
        RoamingHouse house = new RoamingHouse();
        house.promise(0, 1, 7);
        for (int month = 0; month <= 35; month++) {
            for (int year = 0; year <= 1; year++) {
                int asked = year;
                if (month >= 12 * (year + 1)) {
                    checks.due("year " + year + " in month " + month, house.shortfall(0, 1, year), 7);
                } else {
                    checks.illegalState("year " + year + " in month " + month, () -> house.shortfall(0, 1, asked));
                }
            }
            if (month < 35) {
                house.nextMonth();
            }
        }
    }

    private void yearsZeroAndOne() {
        checks.begin("year: 0 to 1; also if all of year 2 has begun");
        for (int now : new int[] {0, 11, 12, 23, 24, 35}) {
            RoamingHouse house = Houses.inMonth(now);
            for (int wrong : new int[] {-1, 2, 3, Integer.MIN_VALUE, Integer.MAX_VALUE}) {
                checks.illegalArgument("year " + wrong + " in " + now, () -> house.shortfall(0, 1, wrong));
            }
            checks.illegalArgument("both the same in " + now, () -> house.shortfall(1, 1, 1));
            checks.outOfBounds("no such home in " + now, () -> house.shortfall(1, 4, 2));
        }
    }

    private void monthsOfTheYearThatFallsShort() {
        checks.begin("all that is owed for this year: from its first month to its last one");
        int[][] monthAndYear = {{0, 0}, {1, 0}, {10, 0}, {11, 0}, {12, 1}, {13, 1}, {22, 1}, {23, 1}, {24, 2}, {35, 2}};
        for (int[] row : monthAndYear) {
            RoamingHouse house = Houses.inMonth(row[0]);
            Houses.accepted(house, 0, 1, 60);
            house.promise(0, 1, 50);
            Houses.letPass(house, 35 - row[0]);
            String what = "accepted in " + row[0] + ", year ";
            checks.due(what + 0, house.shortfall(0, 1, 0), row[1] == 0 ? 40 : 50);
            checks.due(what + 1, house.shortfall(0, 1, 1), row[1] == 1 ? 40 : 50);
        }
    }

    private void whatIsOwedLessensWhatFallsShort() {
        checks.begin("all that is owed: as disputes, agreements and other pairs have it");
        RoamingHouse house = Houses.inMonth(11);
        house.send(Houses.draft(house, 0, 1, 4), 1);
        Houses.accepted(house, 1, 0, 600);
        Houses.accepted(house, 0, 2, 600);
        house.promise(0, 1, 100);
        house.nextMonth();
        house.dispute(0);
        house.dispute(1);
        house.answer(1, true);
        house.dispute(2);
        house.answer(2, false);
        checks.due("one is given back", house.shortfall(0, 1, 0), 70);
        Houses.letPass(house, 2);
        checks.due("another one is given back", house.shortfall(0, 1, 0), 80);
        house.agree(0, 1, 120, 5000, false);
        checks.due("one is discounted", house.shortfall(0, 1, 0), 85);
        house.agree(0, 1, 240, 5000, true);
        checks.due("all are discounted", house.shortfall(0, 1, 0), 90);
        house.setRate(0, 5000);
        checks.due("in the money of the host", house.shortfall(0, 1, 0), 90);
    }

    private void aGreatAmountIsNotShort() {
        checks.begin("Returns the amount, 0 or above, also if more is owed than an int holds");
        RoamingHouse house = Houses.dear(2, 0);
        Houses.letPass(house, 12);
        for (int promise : new int[] {0, 1, 12000000, 13000000, 100000000}) {
            house.promise(2, 0, promise);
            checks.due("short of " + promise, house.shortfall(2, 0, 0), 0);
        }
        house.agree(2, 0, 0, 9999, false);
        checks.due("short, with a discount", house.shortfall(2, 0, 0), 100000000 - 60 * 3601);
    }

    private void rateAtFirst() {
        checks.begin("Each operator has a rate, 1000 at first");
        for (int operator = 0; operator < 4; operator++) {
            RoamingHouse house = new RoamingHouse();
            int home = (operator + 1) % 4;
            Houses.accepted(house, operator, home, 61);
            checks.due("net as the amount", house.net(operator, 0), 20);
            checks.due("rate before", house.setRate(operator, 1001), 1000);
            checks.due("rate of the home", house.setRate(home, 1), 1000);
        }
    }

    private void rateBefore() {
        checks.begin("rate: 1 to 100000; returns the rate before");
        RoamingHouse house = new RoamingHouse();
        checks.due("at first", house.setRate(2, 100000), 1000);
        checks.illegalArgument("one above", () -> house.setRate(2, 100001));
        checks.illegalArgument("one below", () -> house.setRate(2, 0));
        checks.outOfBounds("no such operator", () -> house.setRate(4, 1));
        checks.outOfBounds("no such operator", () -> house.setRate(-1, 0));
        checks.due("the greatest", house.setRate(2, 1), 100000);
        checks.due("the least", house.setRate(2, 2), 1);
        checks.due("of another one", house.setRate(3, 2), 1000);
    }

    private void rateForAllMonths() {
        checks.begin("Sets the rate of an operator, for all months");
        RoamingHouse house = new RoamingHouse();
        Houses.accepted(house, 0, 1, 600);
        Houses.letPass(house, 35);
        Houses.accepted(house, 0, 1, 600);
        for (int rate : new int[] {1000, 2000, 10}) {
            house.setRate(0, rate);
            checks.due("the first month", house.net(0, 0), rate / 10);
            checks.due("the last month", house.net(0, 35), rate / 10);
            checks.due("owed, in the money of the host", house.owed(0, 1, 0), 100);
        }
    }

    private void unitsRoundedDown() {
        checks.begin("the amount times the rate of the host, divided by 1000, rounded down");
        int[][] amountRateAndUnits = {
            {0, 100000, 0}, {1, 1, 0}, {1, 999, 0}, {1, 1000, 1}, {1, 1001, 1}, {1, 1999, 1}, {1, 2000, 2},
            {1, 100000, 100}, {999, 1, 0}, {1000, 1, 1}, {1000, 999, 999}, {999, 1001, 999}, {1000, 1001, 1001},
            {7, 143, 1}, {7, 142, 0},
        };
        for (int[] row : amountRateAndUnits) {
            RoamingHouse house = new RoamingHouse();
            house.setTariff(1, 60, row[0], 0);
            house.setRate(1, row[1]);
            Houses.accepted(house, 1, 2, 60);
            String what = row[0] + " by the rate " + row[1];
            checks.due(what + ", host", house.net(1, 0), row[2]);
            // What is owed is rounded down, not the net, which is below 0.
            checks.due(what + ", home", house.net(2, 0), -row[2]);
        }
    }

    private void unitsRoundedForEachPair() {
        checks.begin("What is owed by a pair in a month, in units: not by a call, not by all pairs, not by a year");
        RoamingHouse house = new RoamingHouse();
        house.setTariff(0, 60, 1, 0);
        house.setRate(0, 1500);
        Houses.accepted(house, 0, 1, 60);
        Houses.accepted(house, 0, 1, 60);
        Houses.accepted(house, 0, 2, 60);
        Houses.accepted(house, 0, 3, 60);
        checks.due("two calls of one pair, one of each other", house.net(0, 0), 3 + 1 + 1);
        checks.due("two calls", house.net(1, 0), -3);
        checks.due("one call", house.net(2, 0), -1);
        house.nextMonth();
        Houses.accepted(house, 0, 1, 60);
        checks.due("the next month", house.net(0, 1), 1);
        checks.due("the month before", house.net(0, 0), 5);
        house.setTariff(1, 60, 1, 0);
        house.setRate(1, 1500);
        Houses.accepted(house, 1, 0, 120);
        checks.due("both ways, of 0", house.net(0, 1), 1 - 3);
        checks.due("both ways, of 1", house.net(1, 1), 3 - 1);
    }

    private void rateOfTheHost() {
        checks.begin("times the rate of the host");
        RoamingHouse house = new RoamingHouse();
        Houses.accepted(house, 0, 1, 600);
        house.setRate(1, 100000);
        checks.due("the home's rate, of the host", house.net(0, 0), 100);
        checks.due("the home's rate, of the home", house.net(1, 0), -100);
        house.setRate(0, 10);
        checks.due("the host's rate, of the host", house.net(0, 0), 1);
        checks.due("the host's rate, of the home", house.net(1, 0), -1);
    }

    private void netOfNothing() {
        checks.begin("Returns the units, 0 if nothing is owed");
        RoamingHouse house = Houses.inMonth(35);
        Houses.accepted(house, 0, 1, 60);
        for (int month = 0; month < 35; month++) {
            checks.due("net of 0 in " + month, house.net(0, month), 0);
        }
        checks.due("net of one with whom nothing is owed", house.net(2, 35), 0);
        Houses.accepted(house, 1, 0, 60);
        checks.due("as much as it owes", house.net(0, 35), 0);
        checks.due("as much as it is owed", house.net(1, 35), 0);
    }

    private void netsOfAllOperators() {
        checks.begin("what is owed to it as a host, less what it owes as a home, in units, of all pairs");
        RoamingHouse house = new RoamingHouse();
        int[] rates = {1000, 2000, 500, 100};
        for (int pair = 0; pair < 12; pair++) {
            Houses.accepted(house, pair / 3, (pair / 3 + 1 + pair % 3) % 4, 60 * (3 * pair + 1));
        }
        for (int operator = 0; operator < 4; operator++) {
            house.setRate(operator, rates[operator]);
        }
        // What is owed is 10, 40, 70; 100, 130, 160; 190, 220, 250; 280, 310, 340, in the money of the hosts.
        int[] units = {10, 40, 70, 200, 260, 320, 95, 110, 125, 28, 31, 34};
        long[] dues = new long[4];
        for (int pair = 0; pair < 12; pair++) {
            dues[pair / 3] += units[pair];
            dues[(pair / 3 + 1 + pair % 3) % 4] -= units[pair];
        }
        for (int operator = 0; operator < 4; operator++) {
            checks.due("net of " + operator, house.net(operator, 0), dues[operator]);
        }
    }

    private void greatestNet() {
        checks.begin("Returns the units, as many as there may be");
        RoamingHouse house = Houses.dear(0, 3);
        house.setRate(0, 100000);
        checks.due("of the host", house.net(0, 0), 216006000000L);
        checks.due("of the home", house.net(3, 0), -216006000000L);
        house.setRate(0, 1);
        checks.due("of the host, the least rate", house.net(0, 0), 2160060);
        checks.due("of the home, the least rate", house.net(3, 0), -2160060);
    }
}
