import java.util.NoSuchElementException;

/** Promises 6 to 9. */
public final class BookingsTest {
    private static final Check CHECK = new Check("BookingsTest");
    private static final int[] FAR_OUT = {Integer.MIN_VALUE, -1, 4, Integer.MAX_VALUE};

    public static void main(String[] args) {
        promise6Book();
        promise6Refusals();
        promise6OrderOfRefusals();
        promise6WithoutFloors();
        promise7Cancel();
        promise7Refusals();
        promise8Bookings();
        promise9BookingAt();
        CHECK.close();
    }

    private static OpenFloors threeSeats() {
        return Buildings.of(new int[] {1, 2}, new int[] {1, 2}, 0, 1, 2, 3);
    }

    private static void promise6Book() {
        OpenFloors x = threeSeats();
        CHECK.due("6 book(2, 1)", x.book(2, 1), 1);
        CHECK.due("6 book(0, 1)", x.book(0, 1), 2);
        CHECK.due("6 more than the wanted floor has", x.book(1, 1), 3);
        CHECK.due("6 no seat before the next day", x.seatOf(2), -1);
        CHECK.due("6 no floor open before the next day", x.isOpen(1), false);
        x.addFloor(1, 5);
        CHECK.due("6 book(3, 2) after another floor", x.book(3, 2), 4);
        x.nextDay();
        CHECK.due("6 book again on the next day", x.book(2, 0), 1);
    }

    private static void promise6Refusals() {
        OpenFloors x = threeSeats();
        for (int bad : FAR_OUT) {
            CHECK.refused("6 book(" + bad + ", 0)", x, NoSuchElementException.class, () -> x.book(bad, 0));
            CHECK.refused("6 book(0, " + bad + ")", x, IndexOutOfBoundsException.class, () -> x.book(0, bad));
        }
        CHECK.refused("6 book(0, 2)", x, IndexOutOfBoundsException.class, () -> x.book(0, 2));
        x.book(0, 0);
        CHECK.refused("6 a second booking", x, IllegalStateException.class, () -> x.book(0, 1));
        x.book(1, 0);
        x.book(2, 0);
        CHECK.refused("6 more than all seats", x, UnsupportedOperationException.class, () -> x.book(3, 0));
        x.cancel(1);
        CHECK.due("6 after a cancel", x.book(3, 0), 3);
    }

    private static void promise6OrderOfRefusals() {
        OpenFloors x = threeSeats();
        Buildings.bookAll(x, 0, 0, 1, 2);
        CHECK.refused("6 no person, no floor", x, NoSuchElementException.class, () -> x.book(4, 2));
        CHECK.refused("6 no person, full", x, NoSuchElementException.class, () -> x.book(4, 0));
        CHECK.refused("6 no floor, booked", x, IndexOutOfBoundsException.class, () -> x.book(0, 2));
        CHECK.refused("6 no floor, full", x, IndexOutOfBoundsException.class, () -> x.book(3, 2));
        CHECK.refused("6 booked, full", x, IllegalStateException.class, () -> x.book(0, 0));
    }

    private static void promise6WithoutFloors() {
        OpenFloors x = new OpenFloors();
        x.addPerson(0);
        CHECK.refused("6 book(0, 0) without floors", x, IndexOutOfBoundsException.class, () -> x.book(0, 0));
        CHECK.refused("6 book(1, 0) without floors", x, NoSuchElementException.class, () -> x.book(1, 0));
    }

    private static void promise7Cancel() {
        OpenFloors x = threeSeats();
        x.book(0, 1);
        x.book(1, 0);
        x.book(2, 1);
        CHECK.due("7 cancel(1)", x.cancel(1), 0);
        CHECK.due("7 bookings", x.bookings(), 2);
        CHECK.due("7 bookingAt(0)", x.bookingAt(0), 0);
        CHECK.due("7 bookingAt(1)", x.bookingAt(1), 2);
        CHECK.due("7 cancel(0)", x.cancel(0), 1);
        CHECK.due("7 book(0, 0) again", x.book(0, 0), 2);
        CHECK.due("7 the new one is the last", x.bookingAt(1), 0);
        CHECK.due("7 cancel(0) of the new one", x.cancel(0), 0);
        CHECK.due("7 cancel(2)", x.cancel(2), 1);
        CHECK.due("7 no bookings", x.bookings(), 0);
        CHECK.due("7 no plan", x.plan(), 0);
        x.nextDay();
        CHECK.due("7 no seat after a cancel", x.seatOf(2), -1);
    }

    private static void promise7Refusals() {
        OpenFloors x = threeSeats();
        x.book(0, 1);
        for (int bad : FAR_OUT) {
            CHECK.refused("7 cancel(" + bad + ")", x, NoSuchElementException.class, () -> x.cancel(bad));
        }
        CHECK.refused("7 no booking", x, NoSuchElementException.class, () -> x.cancel(1));
        x.cancel(0);
        CHECK.refused("7 cancelled twice", x, NoSuchElementException.class, () -> x.cancel(0));
        x.book(0, 1);
        x.nextDay();
        CHECK.refused("7 a booking of yesterday", x, NoSuchElementException.class, () -> x.cancel(0));
        CHECK.due("7 the seat stays", x.seatOf(0), 1);
    }

    private static void promise8Bookings() {
        OpenFloors x = threeSeats();
        CHECK.due("8 bookings at first", x.bookings(), 0);
        x.book(3, 0);
        CHECK.due("8 bookings after one", x.bookings(), 1);
        x.book(2, 0);
        CHECK.due("8 bookings after two", x.bookings(), 2);
        x.cancel(3);
        CHECK.due("8 bookings after a cancel", x.bookings(), 1);
        x.nextDay();
        CHECK.due("8 bookings on a new day", x.bookings(), 0);
    }

    private static void promise9BookingAt() {
        OpenFloors x = threeSeats();
        CHECK.refused("9 bookingAt(0) of none", x, IndexOutOfBoundsException.class, () -> x.bookingAt(0));
        x.book(3, 1);
        x.book(0, 0);
        x.book(2, 1);
        CHECK.due("9 bookingAt(0)", x.bookingAt(0), 3);
        CHECK.due("9 bookingAt(1)", x.bookingAt(1), 0);
        CHECK.due("9 bookingAt(2)", x.bookingAt(2), 2);
        for (int bad : new int[] {Integer.MIN_VALUE, -1, 3, Integer.MAX_VALUE}) {
            CHECK.refused("9 bookingAt(" + bad + ")", x, IndexOutOfBoundsException.class, () -> x.bookingAt(bad));
        }
        x.nextDay();
        CHECK.refused("9 bookingAt(0) on a new day", x, IndexOutOfBoundsException.class, () -> x.bookingAt(0));
    }
}
