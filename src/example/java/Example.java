/** Two months of two operators: what README.md shows, to be compiled with the class and run. */
public final class Example {
    private Example() {
    }

    public static void main(String[] args) {
        RoamingHouse house = new RoamingHouse();

        // Operator 0 takes 5 for each 60 seconds, and 2 for the beginning.
        house.setTariff(0, 60, 5, 2);

        // Strangers of operator 1 made three calls in the net of 0; the charge of the third one is told wrongly.
        int file = house.begin(0, 1);
        int first = house.enter(file, 61, house.charge(0, 61));
        int second = house.enter(file, 3600, house.charge(0, 3600));
        int third = house.enter(file, 60, 8);
        boolean isAccepted = house.send(file, house.expected(0, 1)) == RoamingHouse.ACCEPTED;
        System.out.println("the file is accepted: " + isAccepted);
        System.out.println("the third call is refused: " + (house.call(third) == RoamingHouse.OUTSIDE));
        System.out.println("owed in month 0: " + house.owed(0, 1, 0));

        // Half of the charge is taken off each call that has 60 seconds or more ahead of it in its year.
        house.agree(0, 1, 60, 5000, false);
        System.out.println("owed for the calls: " + house.owedFor(first) + " and " + house.owedFor(second));

        // A month later the home disputes the first call, and the host gives it back.
        house.nextMonth();
        house.dispute(first);
        house.answer(first, false);
        System.out.println("owed in month 0: " + house.owed(0, 1, 0));

        // One of the money of operator 0 is one and a half units.
        house.setRate(0, 1500);
        System.out.println("nets of month 0: " + house.net(0, 0) + " and " + house.net(1, 0));

        // What is not allowed throws, and changes nothing.
        try {
            house.dispute(third);
        } catch (IllegalStateException e) {
            System.out.println("a refused call can't be disputed");
        }
    }
}
