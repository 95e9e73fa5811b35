/** Promises 27 to 31. */
public final class TotalsTest {
    private static final Check CHECK = new Check("TotalsTest");

    public static void main(String[] args) {
        promise27And28();
        promise29MeanStanding();
        promise30GivenShare();
        promise30WithoutOpenFloors();
        promise31IsSound();
        CHECK.close();
    }

    private static void promise27And28() {
        OpenFloors x = Buildings.ofOneFloor(0, 1, 2);
        for (int day = 0; day < 4; day++) {
            Buildings.bookAll(x, 0, 0, 1, 2);
            x.nextDay();
            CHECK.due("27 cleaning on day " + x.day(), x.cleaning(), 15L * day);
            CHECK.due("28 noShows on day " + x.day(), x.noShows(), 2 * day);
            x.comeIn(0);
            CHECK.due("27 cleaning waits for the day's end", x.cleaning(), 15L * day);
            CHECK.due("28 noShows wait for the day's end", x.noShows(), 2 * day);
        }
    }

    private static void promise29MeanStanding() {
        OpenFloors x = Buildings.ofOneFloor();
        CHECK.refused("29 without people", x, ArithmeticException.class, x::meanStanding);
        x.addPerson(0);
        CHECK.due("29 of one", x.meanStanding(), 5.0);
        x.addPerson(0);
        x.addPerson(0);
        x.book(0, 0);
        x.nextDay();
        x.comeIn(0);
        x.nextDay();
        CHECK.due("29 of 6, 5 and 5", x.meanStanding(), 16.0 / 3.0);
        Buildings.bookAll(x, 0, 1, 2);
        x.nextDay();
        x.nextDay();
        CHECK.due("29 of 6, 4 and 4", x.meanStanding(), 14.0 / 3.0);
    }

    private static void promise30GivenShare() {
        OpenFloors x = Buildings.of(new int[] {3, 7, 12}, new int[] {0, 0, 99}, 0, 1, 2, 3);
        x.book(0, 0);
        x.nextDay();
        CHECK.due("30 one of three", x.givenShare(), 1f / 3f);
        CHECK.due("30 coming does not count", x.comeIn(0), 0);
        CHECK.due("30 one of three again", x.givenShare(), 1f / 3f);
        x.book(0, 0);
        x.book(1, 1);
        x.book(2, 1);
        CHECK.due("30 bookings do not count", x.givenShare(), 1f / 3f);
        x.nextDay();
        CHECK.due("30 three of ten", x.givenShare(), 3f / 10f);
        x.addFloor(12, 0);
        CHECK.due("30 closed floors do not count", x.givenShare(), 3f / 10f);
    }

    private static void promise30WithoutOpenFloors() {
        OpenFloors x = new OpenFloors();
        CHECK.refused("30 without floors", x, ArithmeticException.class, x::givenShare);
        x.addFloor(2, 2);
        CHECK.refused("30 without open floors", x, ArithmeticException.class, x::givenShare);
        x.addPerson(0);
        x.addPerson(0);
        Buildings.bookAll(x, 0, 0, 1);
        x.nextDay();
        CHECK.due("30 all seats", x.givenShare(), 1f);
        x.nextDay();
        CHECK.refused("30 all closed again", x, ArithmeticException.class, x::givenShare);
    }

    private static void promise31IsSound() {
        OpenFloors x = Buildings.of(new int[] {1, 2, 1}, new int[] {3, 0, 6}, 0, 1, 0, 1);
        CHECK.due("31 at first", x.isSound(), true);
        Buildings.bookAll(x, 2, 0, 1, 2);
        CHECK.due("31 with bookings", x.isSound(), true);
        x.nextDay();
        CHECK.due("31 with seats", x.isSound(), true);
        Buildings.comeAll(x, 0, 1, 2);
        CHECK.due("31 with people in", x.isSound(), true);
        x.leave(1);
        x.book(1, 0);
        CHECK.due("31 with some out", x.isSound(), true);
        x.nextDay();
        CHECK.due("31 on a new day", x.isSound(), true);
    }
}
