/**
 * The sentences of the document on disputes and agreements that name a boundary: just on it, and one beyond it.
 * What is refused, and that it changes nothing, is looked at in ArgumentsTest, too.
 */
public final class DisputesEdgesTest {
    private static final int OUTSIDE = RoamingHouse.OUTSIDE;
    private static final int OWED = RoamingHouse.OWED;
    private static final int DISPUTED = RoamingHouse.DISPUTED;
    private static final int UPHELD = RoamingHouse.UPHELD;
    private static final int BACK = RoamingHouse.BACK;

    private final Checks checks = new Checks();

    public static void main(String[] args) {
        DisputesEdgesTest test = new DisputesEdgesTest();
        test.monthsToDispute();
        test.monthOfAcceptanceCountsForADispute();
        test.onlyOwedCallsAreDisputed();
        test.onlyDisputedCallsAreAnswered();
        test.monthsToAnswer();
        test.answeredInTheLastMonthForIt();
        test.disputesAtTheEndOfMonths();
        test.everyDisputeOfAMonth();
        test.givenBackIsNotOwed();
        test.disputedAndUpheldAreOwed();
        test.aRefusedDisputeChangesNothing();
        test.theFirstAndTheLastCall();
        test.noAgreement();
        test.atLeastTheVolumeAhead();
        test.atLeastTheVolumeGoingBack();
        test.leastVolume();
        test.greatestVolume();
        test.discountRoundedDown();
        test.greatestChargeDiscounted();
        test.monthsOfAYear();
        test.yearInWhichCallsWereAccepted();
        test.orderOfAcceptance();
        test.othersSecondsDoNotCount();
        test.givenBackOnesCountForTheVolume();
        test.agreementsCountForWhatIsPast();
        test.oneAgreementInPlaceOfAnother();
        test.aRefusedAgreementChangesNothing();
        test.checks.end("DisputesEdgesTest");
    }

    private void monthsToDispute() {
        checks.begin("in the month in which it was accepted, or the next one");
        for (int accepted : new int[] {0, 10, 11, 22, 23, 32, 33, 34, 35}) {
            for (int later = 0; later <= 3 && accepted + later <= 35; later++) {
                RoamingHouse house = Houses.inMonth(accepted);
                Houses.accepted(house, 0, 1, 60);
                Houses.letPass(house, later);
                String what = "accepted in " + accepted + ", disputed in " + (accepted + later);
                if (later <= 1) {
                    house.dispute(0);
                    checks.due(what, house.call(0), DISPUTED);
                } else {
                    checks.illegalState(what, () -> house.dispute(0));
                    checks.due(what, house.call(0), OWED);
                }
            }
        }
    }

    private void monthOfAcceptanceCountsForADispute() {
        checks.begin("The home can dispute an accepted call: its month is not that of its file");
        RoamingHouse house = new RoamingHouse();
        int file = Houses.draft(house, 0, 1, 1);
        house.send(file, 2);
        Houses.letPass(house, 2);
        Houses.accepted(house, 0, 1, 60);
        house.nextMonth();
        house.dispute(0);
        checks.due("begun 3 months ago, accepted a month ago", house.call(0), DISPUTED);
    }

    private void onlyOwedCallsAreDisputed() {
        checks.begin("Throws IllegalStateException if it is not OWED");
        RoamingHouse house = new RoamingHouse();
        int file = Houses.draftWithWrongCalls(house, 0, 1, 4, 1);
        int waiting = Houses.draft(house, 0, 1, 1);
        int twice = Houses.draft(house, 0, 1, 1);
        int bad = Houses.draftWithWrongCalls(house, 0, 1, 1, 1);
        checks.illegalState("in a draft", () -> house.dispute(1));
        house.send(waiting, 3);
        house.send(twice, 3);
        house.send(file, 1);
        house.send(bad, 2);
        house.dispute(2);
        house.answer(2, true);
        house.dispute(3);
        house.answer(3, false);
        house.dispute(1);
        int[] states = {OUTSIDE, DISPUTED, UPHELD, BACK, OWED, OUTSIDE, OUTSIDE};
        for (int call = 0; call < states.length; call++) {
            int disputed = call;
            checks.due("state of call " + call, house.call(call), states[call]);
            if (states[call] != OWED) {
                checks.illegalState("dispute of call " + call, () -> house.dispute(disputed));
                checks.due("state of call " + call, house.call(call), states[call]);
            }
        }
    }

    private void onlyDisputedCallsAreAnswered() {
        checks.begin("Throws IllegalStateException if it is not DISPUTED");
        RoamingHouse house = new RoamingHouse();
        int file = Houses.draftWithWrongCalls(house, 0, 1, 4, 1);
        checks.illegalState("in a draft", () -> house.answer(1, true));
        house.send(file, 1);
        house.dispute(2);
        house.answer(2, true);
        house.dispute(3);
        house.answer(3, false);
        int[] states = {OUTSIDE, OWED, UPHELD, BACK};
        for (int call = 0; call < states.length; call++) {
            int answered = call;
            checks.illegalState("uphold call " + call, () -> house.answer(answered, true));
            checks.illegalState("give call " + call + " back", () -> house.answer(answered, false));
            checks.due("state of call " + call, house.call(call), states[call]);
        }
    }

    private void monthsToAnswer() {
        checks.begin("is not answered when the second month behind that begins, is given back then");
        for (int accepted : new int[] {0, 9, 10, 11, 21, 22, 23, 32, 33}) {
            for (int later = 0; later <= 1 && accepted + later <= 33; later++) {
                RoamingHouse house = Houses.inMonth(accepted);
                Houses.accepted(house, 0, 1, 60);
                Houses.letPass(house, later);
                house.dispute(0);
                String what = "accepted in " + accepted + ", disputed in " + (accepted + later);
                house.nextMonth();
                checks.due(what + ", the month behind that", house.call(0), DISPUTED);
                checks.due(what + ", owed", house.owedFor(0), 10);
                house.nextMonth();
                checks.due(what + ", the second month behind that", house.call(0), BACK);
                checks.due(what + ", not owed", house.owedFor(0), 0);
                checks.due(what + ", its month", house.monthOf(0), accepted);
                checks.illegalState(what + ", an answer too late", () -> house.answer(0, true));
                checks.due(what + ", given back for good", house.call(0), BACK);
            }
        }
    }

    private void answeredInTheLastMonthForIt() {
        checks.begin("The host answers it, in the month behind the dispute");
        for (int months = 0; months <= 1; months++) {
            RoamingHouse house = new RoamingHouse();
            house.send(Houses.draft(house, 0, 1, 2), 1);
            house.dispute(0);
            house.dispute(1);
            Houses.letPass(house, months);
            house.answer(0, true);
            house.answer(1, false);
            checks.due("upheld after " + months, house.call(0), UPHELD);
            checks.due("given back after " + months, house.call(1), BACK);
            Houses.letPass(house, 12);
            checks.due("upheld after " + months + " for good", house.call(0), UPHELD);
            checks.due("given back after " + months + " for good", house.call(1), BACK);
            checks.due("owed", house.owed(0, 1, 0), 10);
        }
    }

    private void disputesAtTheEndOfMonths() {
        checks.begin("month 35 is the last one: no second month behind 34 and 35 begins");
        RoamingHouse house = Houses.inMonth(33);
        house.send(Houses.draft(house, 0, 1, 1), 1);
        house.dispute(0);
        house.nextMonth();
        house.send(Houses.draft(house, 0, 1, 1), 2);
        house.dispute(1);
        house.nextMonth();
        house.send(Houses.draft(house, 0, 1, 1), 3);
        house.dispute(2);
        for (int tries = 0; tries < 3; tries++) {
            checks.due("begun in 33", house.call(0), BACK);
            checks.due("begun in 34", house.call(1), DISPUTED);
            checks.due("begun in 35", house.call(2), DISPUTED);
            checks.illegalState("behind the last month", house::nextMonth);
            checks.due("month", house.month(), 35);
        }
        house.answer(1, true);
        house.answer(2, false);
        checks.due("begun in 34, answered in 35", house.call(1), UPHELD);
        checks.due("begun in 35, answered in 35", house.call(2), BACK);
    }

    private void everyDisputeOfAMonth() {
        checks.begin("A dispute is given back, and so are as many as there may be");
        RoamingHouse house = new RoamingHouse();
        house.send(Houses.draft(house, 0, 1, 60), 1);
        for (int call = 0; call < 60; call++) {
            if (call == 30) {
                house.nextMonth();
            }
            house.dispute(call);
        }
        house.nextMonth();
        for (int call = 0; call < 60; call++) {
            checks.due("call " + call, house.call(call), call < 30 ? BACK : DISPUTED);
        }
        checks.due("owed", house.owed(0, 1, 0), 300);
        house.nextMonth();
        for (int call = 0; call < 60; call++) {
            checks.due("call " + call, house.call(call), BACK);
        }
        checks.due("owed", house.owed(0, 1, 0), 0);
    }

    private void givenBackIsNotOwed() {
        checks.begin("A call that was given back is not owed");
        RoamingHouse house = new RoamingHouse();
        house.send(Houses.draft(house, 0, 1, 2), 1);
        house.promise(0, 1, 15);
        house.dispute(0);
        house.answer(0, false);
        checks.due("owed for it", house.owedFor(0), 0);
        checks.due("owed for the other", house.owedFor(1), 10);
        checks.due("month of it", house.monthOf(0), 0);
        checks.due("owed in the month", house.owed(0, 1, 0), 10);
        checks.due("net of the host", house.net(0, 0), 10);
        checks.due("net of the home", house.net(1, 0), -10);
        Houses.letPass(house, 12);
        checks.due("falls short", house.shortfall(0, 1, 0), 5);
    }

    private void disputedAndUpheldAreOwed() {
        checks.begin("in dispute, which is owed, too; upheld, likewise");
        RoamingHouse house = new RoamingHouse();
        house.send(Houses.draft(house, 0, 1, 2), 1);
        house.agree(0, 1, 60, 5000, false);
        for (int step = 0; step < 3; step++) {
            checks.due("owed for the first, step " + step, house.owedFor(0), 10);
            checks.due("owed for the second, step " + step, house.owedFor(1), 5);
            checks.due("owed, step " + step, house.owed(0, 1, 0), 15);
            checks.due("net, step " + step, house.net(1, 0), -15);
            if (step == 0) {
                house.dispute(0);
                house.dispute(1);
            } else if (step == 1) {
                house.answer(0, true);
                house.answer(1, true);
            }
        }
    }

    private void aRefusedDisputeChangesNothing() {
        checks.begin("dispute, a call that throws changes nothing");
        RoamingHouse house = new RoamingHouse();
        Houses.accepted(house, 0, 1, 60);
        house.dispute(0);
        house.nextMonth();
        // A second dispute that counted would begin the months anew.
        checks.illegalState("disputed already", () -> house.dispute(0));
        house.nextMonth();
        checks.due("two months behind the first dispute", house.call(0), BACK);
    }

    private void theFirstAndTheLastCall() {
        checks.begin("there is no such call: one below the first, one beyond the last");
        RoamingHouse house = new RoamingHouse();
        house.send(Houses.draft(house, 0, 1, 60), 1);
        for (int call : new int[] {0, 59}) {
            house.dispute(call);
            house.answer(call, call == 0);
        }
        checks.due("the first", house.call(0), UPHELD);
        checks.due("the last", house.call(59), BACK);
        for (int none : new int[] {-1, 60}) {
            checks.outOfBounds("call " + none, () -> house.call(none));
            checks.outOfBounds("monthOf " + none, () -> house.monthOf(none));
            checks.outOfBounds("owedFor " + none, () -> house.owedFor(none));
            checks.outOfBounds("dispute " + none, () -> house.dispute(none));
            checks.outOfBounds("answer " + none, () -> house.answer(none, true));
        }
    }

    private void noAgreement() {
        checks.begin("A pair can have an agreement; without one nothing is discounted");
        RoamingHouse house = new RoamingHouse();
        int call = Houses.accepted(house, 0, 1, 36000);
        house.agree(1, 0, 0, 10000, true);
        house.agree(0, 2, 0, 10000, true);
        house.agree(2, 1, 0, 10000, true);
        checks.due("agreements of other pairs", house.owedFor(call), 6000);
    }

    private void atLeastTheVolumeAhead() {
        checks.begin("a call is discounted, if the seconds of those ahead of it are at least the volume");
        RoamingHouse house = new RoamingHouse();
        int first = Houses.accepted(house, 0, 1, 100);
        int second = Houses.accepted(house, 0, 1, 200);
        int third = Houses.accepted(house, 0, 1, 1);
        int[][] volumeAndOwed = {
            {0, 10, 20, 5}, {1, 20, 20, 5}, {99, 20, 20, 5}, {100, 20, 20, 5}, {101, 20, 40, 5}, {299, 20, 40, 5},
            {300, 20, 40, 5}, {301, 20, 40, 10}, {1000000, 20, 40, 10},
        };
        for (int[] row : volumeAndOwed) {
            house.agree(0, 1, row[0], 5000, false);
            checks.due("first, volume " + row[0], house.owedFor(first), row[1]);
            checks.due("second, volume " + row[0], house.owedFor(second), row[2]);
            checks.due("third, volume " + row[0], house.owedFor(third), row[3]);
            checks.due("all, volume " + row[0], house.owed(0, 1, 0), row[1] + row[2] + row[3]);
        }
    }

    private void atLeastTheVolumeGoingBack() {
        checks.begin("if the agreement goes back, all of them are, if the seconds of all are at least the volume");
        RoamingHouse house = new RoamingHouse();
        Houses.accepted(house, 0, 1, 100);
        Houses.accepted(house, 0, 1, 200);
        Houses.accepted(house, 0, 1, 1);
        int[][] volumeAndOwed = {{0, 35}, {300, 35}, {301, 35}, {302, 70}, {1000000, 70}};
        for (int[] row : volumeAndOwed) {
            house.agree(0, 1, row[0], 5000, true);
            checks.due("volume " + row[0], house.owed(0, 1, 0), row[1]);
        }
        Houses.accepted(house, 0, 1, 1);
        house.agree(0, 1, 302, 5000, true);
        checks.due("reached by one more second", house.owed(0, 1, 0), 40);
    }

    private void leastVolume() {
        checks.begin("volume: 0 to 1000000, the least: the first call of a year is discounted, too");
        for (int goesBack = 0; goesBack <= 1; goesBack++) {
            RoamingHouse house = new RoamingHouse();
            house.agree(0, 1, 0, 1000, goesBack == 1);
            checks.due("the first call", house.owedFor(Houses.accepted(house, 0, 1, 60)), 9);
            checks.due("the second call", house.owedFor(Houses.accepted(house, 0, 1, 60)), 9);
            Houses.letPass(house, 12);
            checks.due("the first call of year 1", house.owedFor(Houses.accepted(house, 0, 1, 60)), 9);
        }
    }

    private void greatestVolume() {
        checks.begin("volume: 0 to 1000000, the greatest");
        for (int lacking = 0; lacking <= 1; lacking++) {
            RoamingHouse house = new RoamingHouse();
            house.setTariff(0, 600, 10, 0);
            int file = house.begin(0, 1);
            for (int call = 0; call < 27; call++) {
                house.enter(file, 36000, 600);
            }
            // With these there are 1000000 seconds, or one less.
            house.enter(file, 28000 - lacking, 470);
            house.send(file, 1);
            int last = Houses.accepted(house, 0, 1, 600);
            house.agree(0, 1, 1000000, 10000, false);
            checks.due("ahead of the last, lacking " + lacking, house.owedFor(last), lacking * 10);
            checks.due("owed, lacking " + lacking, house.owed(0, 1, 0), 27 * 600 + 470 + lacking * 10);
            house.agree(0, 1, 1000000, 10000, true);
            checks.due("going back", house.owed(0, 1, 0), 0);
        }
    }

    private void discountRoundedDown() {
        checks.begin("that charge times the rate, divided by 10000, rounded down");
        int[][] chargeRateAndOwed = {
            {0, 10000, 0}, {1, 0, 1}, {1, 1, 1}, {1, 5000, 1}, {1, 9999, 1}, {1, 10000, 0}, {27, 5000, 14},
            {999, 10, 999}, {1000, 10, 999}, {1001, 10, 1000}, {1999, 10, 1998}, {2000, 10, 1998}, {1000, 9999, 1},
            {1000, 9990, 1}, {1000, 9989, 2}, {1000, 0, 1000}, {1000, 10000, 0},
        };
        for (int[] row : chargeRateAndOwed) {
            RoamingHouse house = new RoamingHouse();
            house.setTariff(0, 60, Math.min(row[0], 1000), Math.max(row[0] - 1000, 0));
            Houses.accepted(house, 0, 1, 60);
            Houses.accepted(house, 0, 1, 60);
            house.agree(0, 1, 60, row[1], false);
            String what = "charge " + row[0] + ", rate " + row[1];
            checks.due(what + ", not discounted", house.owedFor(0), row[0]);
            checks.due(what + ", discounted", house.owedFor(1), row[2]);
            house.agree(0, 1, 120, row[1], true);
            // Each call is rounded for itself.
            checks.due(what + ", both discounted", house.owed(0, 1, 0), 2 * row[2]);
        }
    }

    private void greatestChargeDiscounted() {
        checks.begin("What is owed for a call, by the greatest charge: nothing wraps around");
        RoamingHouse house = Houses.dear(1, 3);
        int[][] rateAndOwed = {
            {0, 36001000}, {1, 35997400}, {597, 33851741}, {5000, 18000500}, {9999, 3601}, {10000, 0},
        };
        for (int[] row : rateAndOwed) {
            house.agree(1, 3, 0, row[0], false);
            checks.due("rate " + row[0], house.owedFor(0), row[1]);
            checks.due("all, rate " + row[0], house.owed(1, 3, 0), 60L * row[1]);
        }
    }

    private void monthsOfAYear() {
        checks.begin("For each year; the year of a month is the month / 12, rounded down");
        int[][] monthsAndOneYear = {
            {0, 11, 1}, {0, 12, 0}, {11, 12, 0}, {12, 23, 1}, {12, 24, 0}, {23, 24, 0}, {24, 35, 1}, {0, 35, 0},
            {11, 11, 1}, {35, 35, 1},
        };
        for (int[] row : monthsAndOneYear) {
            RoamingHouse house = Houses.inMonth(row[0]);
            Houses.accepted(house, 0, 1, 60);
            Houses.letPass(house, row[1] - row[0]);
            Houses.accepted(house, 0, 1, 60);
            String what = "months " + row[0] + " and " + row[1];
            house.agree(0, 1, 60, 5000, false);
            checks.due(what + ", first", house.owedFor(0), 10);
            checks.due(what + ", second", house.owedFor(1), row[2] == 1 ? 5 : 10);
            house.agree(0, 1, 120, 5000, true);
            checks.due(what + ", first, going back", house.owedFor(0), row[2] == 1 ? 5 : 10);
            checks.due(what + ", second, going back", house.owedFor(1), row[2] == 1 ? 5 : 10);
        }
    }

    private void yearInWhichCallsWereAccepted() {
        checks.begin("the accepted calls of the pair in this year: by the month in which they were accepted");
        RoamingHouse house = Houses.inMonth(11);
        int ofYear0 = Houses.accepted(house, 0, 1, 60);
        // Begun and sent in year 0, and looked at in year 1, behind the file that was lacking.
        int waiting = house.begin(0, 1);
        int second = house.enter(waiting, 60, 10);
        checks.due("waits", house.send(waiting, 3), RoamingHouse.WAITS);
        house.nextMonth();
        int first = Houses.accepted(house, 0, 1, 60);
        checks.due("month", house.monthOf(second), 12);
        int[][] volumeAndOwed = {{60, 10, 10, 5}, {61, 10, 10, 10}};
        int[][] volumeAndOwedGoingBack = {{60, 5, 5, 5}, {61, 10, 5, 5}, {120, 10, 5, 5}, {121, 10, 10, 10}};
        for (int[] row : volumeAndOwed) {
            house.agree(0, 1, row[0], 5000, false);
            owedForThree(house, "volume " + row[0], new int[] {ofYear0, first, second}, row);
        }
        for (int[] row : volumeAndOwedGoingBack) {
            house.agree(0, 1, row[0], 5000, true);
            owedForThree(house, "going back, volume " + row[0], new int[] {ofYear0, first, second}, row);
        }
    }

    private void owedForThree(RoamingHouse house, String what, int[] calls, int[] volumeAndOwed) {
        for (int i = 0; i < 3; i++) {
            checks.due(what + ", call " + i, house.owedFor(calls[i]), volumeAndOwed[i + 1]);
        }
    }

    private void orderOfAcceptance() {
        checks.begin("in the order in which they were accepted; its calls by rising numbers");
        RoamingHouse house = new RoamingHouse();
        int late = house.begin(0, 1);
        int early = house.begin(0, 1);
        // Entered in turn, so that the order of numbers is another one than that of acceptance.
        int third = house.enter(late, 40, 10);
        int first = house.enter(early, 10, 10);
        int fourth = house.enter(late, 80, 20);
        int second = house.enter(early, 20, 10);
        house.send(late, 2);
        house.send(early, 1);
        int[] calls = {first, second, third, fourth};
        int[] ahead = {0, 10, 30, 70};
        for (int i = 0; i < 4; i++) {
            house.agree(0, 1, ahead[i], 10000, false);
            checks.due("call " + calls[i] + " by " + ahead[i], house.owedFor(calls[i]), 0);
            house.agree(0, 1, ahead[i] + 1, 10000, false);
            checks.due("call " + calls[i] + " by one more", house.owedFor(calls[i]), i == 3 ? 20 : 10);
        }
    }

    private void othersSecondsDoNotCount() {
        checks.begin("the accepted calls of the pair in this year: no others");
        RoamingHouse house = new RoamingHouse();
        int late = Houses.draft(house, 0, 1, 1);
        Houses.letPass(house, 3);
        Houses.accepted(house, 1, 0, 600);
        Houses.accepted(house, 0, 2, 600);
        Houses.accepted(house, 2, 1, 600);
        house.send(Houses.draftWithWrongCalls(house, 0, 1, 1, 1), 1);
        house.send(Houses.draft(house, 0, 1, 1), 1);
        house.send(Houses.draft(house, 0, 1, 1), 5);
        Houses.draft(house, 0, 1, 1);
        checks.due("a late file", house.send(late, 2), RoamingHouse.LATE);
        int file = Houses.draftWithWrongCalls(house, 0, 1, 3, 1);
        checks.due("a file with a refused call", house.send(file, 3), RoamingHouse.ACCEPTED);
        int last = house.calls() - 1;
        house.agree(0, 1, 60, 5000, false);
        checks.due("the first accepted one", house.owedFor(last - 1), 10);
        checks.due("60 seconds ahead", house.owedFor(last), 5);
        house.agree(0, 1, 61, 5000, false);
        checks.due("not 61 seconds ahead", house.owedFor(last), 10);
        house.agree(0, 1, 120, 5000, true);
        checks.due("120 seconds in all", house.owedFor(last), 5);
        house.agree(0, 1, 121, 5000, true);
        checks.due("not 121 seconds in all", house.owedFor(last), 10);
    }

    private void givenBackOnesCountForTheVolume() {
        checks.begin("those that were given back, too");
        RoamingHouse house = new RoamingHouse();
        house.send(Houses.draft(house, 0, 1, 3), 1);
        house.dispute(0);
        house.dispute(1);
        house.answer(1, false);
        Houses.letPass(house, 2);
        checks.due("given back without an answer", house.call(0), BACK);
        house.agree(0, 1, 120, 5000, false);
        checks.due("behind two that were given back", house.owedFor(2), 5);
        house.agree(0, 1, 180, 5000, true);
        checks.due("with two that were given back", house.owed(0, 1, 0), 5);
        house.agree(0, 1, 181, 5000, true);
        checks.due("one second more", house.owed(0, 1, 0), 10);
    }

    private void agreementsCountForWhatIsPast() {
        checks.begin("Agreements count as they are now, also for what is past");
        RoamingHouse house = new RoamingHouse();
        house.promise(0, 1, 100);
        Houses.accepted(house, 0, 1, 60);
        Houses.letPass(house, 12);
        Houses.accepted(house, 0, 1, 60);
        Houses.letPass(house, 23);
        int[][] rateAndOwed = {{5000, 5}, {10000, 0}, {0, 10}};
        for (int[] row : rateAndOwed) {
            house.agree(0, 1, 0, row[0], false);
            checks.due("the month 0", house.owed(0, 1, 0), row[1]);
            checks.due("the month 12", house.owed(0, 1, 12), row[1]);
            checks.due("net of the month 0", house.net(1, 0), -row[1]);
            checks.due("short in year 0", house.shortfall(0, 1, 0), 100 - row[1]);
            checks.due("short in year 1", house.shortfall(0, 1, 1), 100 - row[1]);
        }
    }

    private void oneAgreementInPlaceOfAnother() {
        checks.begin("Makes an agreement of a pair, in place of the one that it may have");
        RoamingHouse house = new RoamingHouse();
        house.send(Houses.draft(house, 0, 1, 2), 1);
        house.agree(0, 1, 60, 10000, true);
        checks.due("going back", house.owed(0, 1, 0), 0);
        house.agree(0, 1, 60, 10000, false);
        checks.due("not going back", house.owed(0, 1, 0), 10);
        house.agree(0, 1, 0, 10000, false);
        checks.due("a lower volume", house.owed(0, 1, 0), 0);
        house.agree(0, 1, 0, 1000, false);
        checks.due("a lower rate", house.owed(0, 1, 0), 18);
        house.agree(0, 1, 1000000, 10000, true);
        checks.due("a volume that is not reached", house.owed(0, 1, 0), 20);
    }

    private void aRefusedAgreementChangesNothing() {
        checks.begin("agree, a call that throws changes nothing");
        RoamingHouse house = new RoamingHouse();
        house.send(Houses.draft(house, 0, 1, 2), 1);
        house.agree(0, 1, 60, 5000, false);
        checks.illegalArgument("volume -1", () -> house.agree(0, 1, -1, 10000, true));
        checks.illegalArgument("volume 1000001", () -> house.agree(0, 1, 1000001, 10000, true));
        checks.illegalArgument("rate -1", () -> house.agree(0, 1, 0, -1, true));
        checks.illegalArgument("rate 10001", () -> house.agree(0, 1, 0, 10001, true));
        checks.illegalArgument("both the same", () -> house.agree(1, 1, 0, 10000, true));
        checks.outOfBounds("no such host", () -> house.agree(-1, 1, 0, 10000, true));
        checks.outOfBounds("no such home", () -> house.agree(0, 4, 0, 10000, true));
        checks.due("owed", house.owed(0, 1, 0), 15);
    }
}
