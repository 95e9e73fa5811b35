import java.util.NoSuchElementException;

/** All that can be asked of a building without changing it, as one text; some 100 calls at the most. */
final class Snapshot {
    private Snapshot() {
    }

    static String of(OpenFloors x) {
        int floors = floorsOf(x);
        int people = peopleOf(x);
        StringBuilder text = new StringBuilder("day " + x.day() + " plan " + x.plan() + " loss " + x.planLoss()
                + " energy " + x.energy() + " discomfort " + x.discomfort() + " cleaning " + x.cleaning()
                + " noShows " + x.noShows() + " bookings");
        for (int i = 0; i < x.bookings(); i++) {
            text.append(' ').append(x.bookingAt(i));
        }
        for (int floor = 0; floor < floors; floor++) {
            text.append("; floor ").append(x.isOpen(floor)).append(' ').append(x.warmth(floor)).append(' ')
                    .append(x.air(floor)).append(' ').append(lossOf(x, 1 << floor));
        }
        text.append("; all ").append(lossOf(x, (1 << floors) - 1));
        for (int person = 0; person < people; person++) {
            text.append("; person ").append(x.standing(person)).append(' ').append(x.seatOf(person)).append(' ')
                    .append(x.isIn(person));
        }
        return text.toString();
    }

    private static int floorsOf(OpenFloors x) {
        int floors = 0;
        try {
            while (floors < 7) {
                x.isOpen(floors);
                floors++;
            }
        } catch (IndexOutOfBoundsException e) {
            return floors;
        }
        return floors;
    }

    private static int peopleOf(OpenFloors x) {
        int people = 0;
        try {
            while (people < 13) {
                x.standing(people);
                people++;
            }
        } catch (NoSuchElementException e) {
            return people;
        }
        return people;
    }

    private static String lossOf(OpenFloors x, int set) {
        try {
            return "" + x.lossOf(set);
        } catch (UnsupportedOperationException e) {
            return "unfit";
        }
    }
}
