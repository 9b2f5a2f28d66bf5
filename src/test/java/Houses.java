/** Short ways to a house in a wanted state; each answers the same house each time. */
final class Houses {
    private Houses() {
    }

    /** Begins a file with calls of 60 seconds each, rightly told by the tariff of now. */
    static int draft(RoamingHouse house, int host, int home, int calls) {
        int file = house.begin(host, home);
        for (int i = 0; i < calls; i++) {
            house.enter(file, 60, house.charge(host, 60));
        }
        return file;
    }

    /** Begins a file with so many calls, the first ones of them wrongly told. */
    static int draftWithWrongCalls(RoamingHouse house, int host, int home, int calls, int wrong) {
        int file = house.begin(host, home);
        int right = house.charge(host, 60);
        for (int i = 0; i < calls; i++) {
            // Told by one too much and by one too little, in turn.
            house.enter(file, 60, i >= wrong ? right : i % 2 == 0 ? right + 1 : right - 1);
        }
        return file;
    }

    /** Begins and sends a file with one call, rightly told; the call's number is the answer. */
    static int accepted(RoamingHouse house, int host, int home, int seconds) {
        int file = house.begin(host, home);
        int call = house.enter(file, seconds, house.charge(host, seconds));
        house.send(file, house.expected(host, home));
        return call;
    }

    static void letPass(RoamingHouse house, int months) {
        for (int i = 0; i < months; i++) {
            house.nextMonth();
        }
    }

    static RoamingHouse inMonth(int month) {
        RoamingHouse house = new RoamingHouse();
        letPass(house, month);
        return house;
    }

    /** In month 13, with files and calls in every state there is; file 0 has no calls. */
    static RoamingHouse busy() {
        RoamingHouse house = new RoamingHouse();
        house.setTariff(0, 30, 7, 3);
        house.setRate(0, 1500);
        house.agree(0, 1, 90, 2500, false);
        house.promise(0, 1, 5000);
        house.begin(3, 0);
        int late = draft(house, 0, 1, 1);
        accepted(house, 3, 0, 61);
        letPass(house, 12);
        int upheld = accepted(house, 0, 1, 61);
        int back = accepted(house, 0, 1, 600);
        accepted(house, 0, 1, 120);
        house.dispute(upheld);
        house.answer(upheld, true);
        house.dispute(back);
        house.answer(back, false);
        house.dispute(accepted(house, 0, 1, 45));
        house.nextMonth();
        house.dispute(accepted(house, 0, 1, 30));
        accepted(house, 0, 1, 60);
        house.send(late, house.expected(0, 1));
        house.send(draftWithWrongCalls(house, 0, 1, 1, 1), house.expected(0, 1));
        house.send(draftWithWrongCalls(house, 0, 1, 3, 1), house.expected(0, 1));
        house.send(draft(house, 0, 1, 1), 1);
        house.send(draft(house, 0, 1, 1), house.expected(0, 1) + 2);
        draft(house, 0, 1, 1);
        return house;
    }

    /** With 30 files, 60 calls, and both drafts and an accepted file among them; file 0 has no calls. */
    static RoamingHouse full() {
        RoamingHouse house = new RoamingHouse();
        for (int file = 0; file < 29; file++) {
            draft(house, 0, 3, file == 0 ? 0 : 2);
        }
        draft(house, 3, 0, 4);
        house.send(28, 1);
        house.agree(0, 3, 60, 5000, true);
        return house;
    }

    /** In the last month, with calls of the months before it; file 0 has no calls. */
    static RoamingHouse old() {
        RoamingHouse house = new RoamingHouse();
        house.begin(0, 3);
        house.promise(3, 0, 100);
        accepted(house, 3, 0, 60);
        letPass(house, 33);
        accepted(house, 3, 0, 60);
        house.nextMonth();
        accepted(house, 3, 0, 60);
        house.dispute(accepted(house, 3, 0, 60));
        house.nextMonth();
        accepted(house, 3, 0, 60);
        house.dispute(accepted(house, 3, 0, 60));
        return house;
    }

    /** The house that owes most: 60 of the longest calls by the dearest tariff, by one pair in one month. */
    static RoamingHouse dear(int host, int home) {
        RoamingHouse house = new RoamingHouse();
        house.setTariff(host, 1, 1000, 1000);
        int file = house.begin(host, home);
        for (int call = 0; call < 60; call++) {
            house.enter(file, 36000, 36001000);
        }
        house.send(file, 1);
        return house;
    }
}
