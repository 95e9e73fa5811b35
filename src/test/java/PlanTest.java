/** Promises 10 to 13. */
public final class PlanTest {
    private static final Check CHECK = new Check("PlanTest");

    public static void main(String[] args) {
        ordinaryPlan();
        planWithoutBookings();
        leastNumberOfSeveral();
        twoLowFloorsBeforeOneHigh();
        seatsForceMoreFloors();
        distanceToBothSides();
        aFullBuilding();
        promise13LossOf();
        promise13LossWithoutBookings();
        promise13Refusals();
        CHECK.close();
    }

    private static void duePlan(String what, OpenFloors x, int set, int loss) {
        CHECK.due("10 plan " + what, x.plan(), set);
        CHECK.due("11 planByTrying " + what, x.planByTrying(), set);
        CHECK.due("12 planLoss " + what, x.planLoss(), loss);
        CHECK.due("13 lossOf the plan " + what, x.lossOf(set), loss);
        CHECK.due("31 isSound " + what, x.isSound(), true);
    }

    private static void ordinaryPlan() {
        OpenFloors x = Buildings.of(new int[] {4, 4, 4}, new int[] {10, 5, 10}, 0, 1, 2);
        x.book(0, 0);
        duePlan("one books floor 0", x, 2, 8);
        x.book(1, 0);
        duePlan("two book floor 0", x, 1, 10);
        x.book(2, 2);
        duePlan("two floor 0, one floor 2", x, 2, 14);
        x.setCost(2, 0);
        duePlan("floor 2 is free", x, 5, 10);
        x.cancel(0);
        duePlan("after a cancel", x, 4, 6);
        CHECK.due("10 the plan opens nothing by itself", x.isOpen(2), false);
    }

    private static void planWithoutBookings() {
        OpenFloors x = Buildings.of(new int[] {1, 2}, Buildings.costs(2), 0);
        duePlan("without bookings, at no cost", x, 0, 0);
        x.book(0, 1);
        x.cancel(0);
        duePlan("after the only cancel", x, 0, 0);
    }

    private static void leastNumberOfSeveral() {
        OpenFloors x = Buildings.of(new int[] {5, 5}, Buildings.costs(2), 0);
        x.book(0, 1);
        duePlan("{1} before {0, 1}", x, 2, 0);
        x.cancel(0);
        x.setCost(0, 3);
        x.book(0, 0);
        duePlan("{0} before {1} and {0, 1}", x, 1, 3);
        OpenFloors three = Buildings.of(new int[] {3, 3, 3}, new int[] {9, 99, 9}, 0, 0);
        three.book(0, 1);
        duePlan("{0} before {2}", three, 1, 12);
    }

    private static void twoLowFloorsBeforeOneHigh() {
        OpenFloors x = Buildings.of(new int[] {1, 1, 2}, new int[] {7, 4, 20}, 0, 0);
        Buildings.bookAll(x, 2, 0, 1);
        CHECK.due("13 lossOf(3)", x.lossOf(3), 17);
        x.setCost(1, 7);
        CHECK.due("13 lossOf(3), dearer", x.lossOf(3), 20);
        CHECK.due("13 lossOf(4)", x.lossOf(4), 20);
        duePlan("{0, 1} before {2}", x, 3, 20);
        OpenFloors four = Buildings.of(new int[] {1, 1, 1, 1}, new int[] {9, 9, 9, 9}, 0, 0);
        four.book(0, 0);
        four.book(1, 3);
        CHECK.due("13 lossOf(9)", four.lossOf(9), 18);
        four.setCost(1, 6);
        four.setCost(2, 6);
        duePlan("{0, 2} before {1, 2}, {0, 3} and {1, 3}", four, 5, 18);
    }

    private static void seatsForceMoreFloors() {
        OpenFloors x = Buildings.of(new int[] {2, 3, 1, 4}, new int[] {10, 4, 0, 12}, 0, 0, 1, 1, 2, 3);
        x.book(0, 0);
        x.book(1, 3);
        x.book(2, 3);
        x.book(3, 2);
        duePlan("4 bookings", x, 6, 13);
        x.cancel(1);
        x.book(1, 0);
        x.book(4, 0);
        x.book(5, 3);
        duePlan("6 bookings", x, 7, 20);
    }

    private static void distanceToBothSides() {
        OpenFloors x = Buildings.of(new int[] {3, 3, 3, 3, 3, 3}, new int[] {0, 99, 99, 99, 99, 0}, 0, 1, 2, 3);
        x.book(0, 1);
        x.book(1, 2);
        x.book(2, 3);
        x.book(3, 4);
        CHECK.due("13 the nearest of both sides", x.lossOf(33), 3 * (1 + 2 + 2 + 1));
        CHECK.due("13 of one side", x.lossOf(0b101000), 99 + 3 * (2 + 1 + 0 + 1));
        CHECK.due("13 of the middle", x.lossOf(0b001100), 198 + 3 * (1 + 0 + 0 + 1));
        duePlan("the first and the last floor", x, 33, 18);
    }

    private static void aFullBuilding() {
        int[] seats = {2, 2, 2, 2, 2, 2};
        int[] costs = {99, 99, 99, 99, 99, 99};
        OpenFloors x = Buildings.of(seats, costs, 0, 0, 0, 0, 0, 0, 0, 0, 0, 0, 0, 0);
        for (int person = 0; person < 11; person++) {
            x.book(person, 5);
        }
        duePlan("11 of 12 seats", x, 63, 594);
        x.book(11, 5);
        duePlan("all 12 seats", x, 63, 594);
        x.cancel(0);
        x.cancel(1);
        duePlan("10 of 12 seats", x, 47, 495);
    }

    private static void promise13LossOf() {
        OpenFloors x = Buildings.of(new int[] {1, 1, 2}, new int[] {1, 10, 50}, 0, 1);
        x.book(0, 0);
        x.book(1, 1);
        CHECK.due("13 lossOf(3)", x.lossOf(3), 11);
        CHECK.due("13 lossOf(4)", x.lossOf(4), 50 + 6 + 3);
        CHECK.due("13 lossOf(5)", x.lossOf(5), 51 + 3);
        CHECK.due("13 lossOf(6)", x.lossOf(6), 60 + 3);
        CHECK.due("13 lossOf(7)", x.lossOf(7), 61);
    }

    private static void promise13LossWithoutBookings() {
        OpenFloors x = Buildings.of(new int[] {1, 1, 2}, new int[] {1, 10, 50}, 0, 1);
        CHECK.due("13 lossOf(0)", x.lossOf(0), 0);
        CHECK.due("13 lossOf(7)", x.lossOf(7), 61);
        CHECK.due("13 lossOf(2)", x.lossOf(2), 10);
    }

    private static void promise13Refusals() {
        OpenFloors x = Buildings.of(new int[] {1, 1, 2}, new int[] {1, 10, 50}, 0, 1);
        for (int bad : new int[] {8, 64, Integer.MIN_VALUE, -1, Integer.MAX_VALUE}) {
            CHECK.refused("13 lossOf(" + bad + ")", x, IllegalArgumentException.class, () -> x.lossOf(bad));
        }
        x.book(0, 0);
        CHECK.refused("13 lossOf(0) with a booking", x, UnsupportedOperationException.class, () -> x.lossOf(0));
        CHECK.refused("13 lossOf(8) with a booking", x, IllegalArgumentException.class, () -> x.lossOf(8));
        CHECK.due("13 lossOf(1) fits", x.lossOf(1), 1);
        x.book(1, 0);
        CHECK.refused("13 lossOf(1) of 1 seat", x, UnsupportedOperationException.class, () -> x.lossOf(1));
        CHECK.refused("13 lossOf(2) of 1 seat", x, UnsupportedOperationException.class, () -> x.lossOf(2));
        OpenFloors none = new OpenFloors();
        CHECK.refused("13 lossOf(1) without floors", none, IllegalArgumentException.class, () -> none.lossOf(1));
    }
}
