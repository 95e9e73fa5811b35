import java.util.NoSuchElementException;

/** Promises 14 to 21. */
public final class DaysTest {
    private static final Check CHECK = new Check("DaysTest");
    private static final int[] FAR_OUT = {Integer.MIN_VALUE, -1, 12, Integer.MAX_VALUE};

    public static void main(String[] args) {
        promise14NoShowsOfTheDay();
        promise14CleansByUse();
        promise14OpensThePlan();
        promise14SeatsInTheOrderOfBookings();
        promise14SeatsByStandingOfTheNewDay();
        promise14SeatsOnTheNearestFloor();
        promise14SeatsByTeam();
        promise14LowestFloorOfSeveral();
        promise14And15LastDay();
        promise16ComeIn();
        promise16Refusals();
        promise17Leave();
        promise18To20AfterADay();
        promise18To20Refusals();
        promise21Seated();
        promise21Refusals();
        CHECK.close();
    }

    private static void promise14NoShowsOfTheDay() {
        OpenFloors x = Buildings.ofOneFloor(0, 1, 2, 3);
        Buildings.bookAll(x, 0, 0, 1, 2);
        CHECK.due("14 nobody had a seat", x.nextDay(), 0);
        x.comeIn(0);
        x.comeIn(1);
        x.leave(1);
        CHECK.due("14 one of three did not come", x.nextDay(), 1);
        CHECK.due("14 standing of one who came", x.standing(0), 6);
        CHECK.due("14 standing of one who came and left", x.standing(1), 6);
        CHECK.due("14 standing of the no-show", x.standing(2), 4);
        CHECK.due("14 standing without a seat", x.standing(3), 5);
        CHECK.due("14 noShows", x.noShows(), 1);
        CHECK.due("14 a day without seats", x.nextDay(), 0);
        CHECK.due("14 noShows stay", x.noShows(), 1);
        Buildings.bookAll(x, 0, 0, 1);
        x.nextDay();
        CHECK.due("14 coming counts for its own day alone", x.nextDay(), 2);
    }

    private static void promise14CleansByUse() {
        OpenFloors x = Buildings.of(new int[] {2, 2, 2}, new int[] {0, 99, 0}, 0, 1, 2, 3);
        x.book(0, 0);
        x.book(1, 0);
        x.book(2, 2);
        x.nextDay();
        CHECK.due("14 closed floors are not cleaned", x.cleaning(), 0L);
        x.comeIn(0);
        x.leave(0);
        x.comeIn(0);
        x.comeIn(1);
        x.nextDay();
        CHECK.due("14 two floors, two who came", x.cleaning(), 30L);
        x.nextDay();
        CHECK.due("14 no floor was open", x.cleaning(), 30L);
    }

    private static void promise14OpensThePlan() {
        OpenFloors x = Buildings.of(new int[] {2, 2, 2}, new int[] {0, 99, 0}, 0, 1);
        x.book(0, 0);
        x.book(1, 2);
        CHECK.due("14 the plan", x.plan(), 5);
        x.nextDay();
        CHECK.due("14 isOpen(0)", x.isOpen(0), true);
        CHECK.due("14 isOpen(1)", x.isOpen(1), false);
        CHECK.due("14 isOpen(2)", x.isOpen(2), true);
        CHECK.due("14 no bookings", x.bookings(), 0);
        CHECK.due("14 no plan any more", x.plan(), 0);
        x.comeIn(0);
        x.book(0, 2);
        x.setCost(2, 50);
        x.nextDay();
        CHECK.due("14 the next plan, floor 0", x.isOpen(0), true);
        CHECK.due("14 the next plan, floor 2", x.isOpen(2), false);
        CHECK.due("14 everybody leaves", x.isIn(0), false);
        CHECK.due("14 nobody keeps a seat without a booking", x.seatOf(1), -1);
        x.nextDay();
        CHECK.due("14 without bookings all close", x.isOpen(0), false);
    }

    private static void promise14SeatsInTheOrderOfBookings() {
        OpenFloors x = Buildings.of(new int[] {1, 1, 1}, Buildings.costs(3), 0, 0, 0);
        Buildings.bookAll(x, 0, 2, 0, 1);
        x.nextDay();
        CHECK.due("14 the first booking", x.seatOf(2), 0);
        CHECK.due("14 the second booking", x.seatOf(0), 1);
        CHECK.due("14 the third booking", x.seatOf(1), 2);
        CHECK.due("14 sound", x.isSound(), true);
    }

    private static void promise14SeatsByStandingOfTheNewDay() {
        OpenFloors x = Buildings.of(new int[] {1, 1, 1}, Buildings.costs(3), 0, 0, 0);
        Buildings.bookAll(x, 0, 0, 1);
        x.nextDay();
        x.comeIn(1);
        Buildings.bookAll(x, 0, 0, 2, 1);
        x.nextDay();
        CHECK.due("14 standing 6 first", x.seatOf(1), 0);
        CHECK.due("14 then standing 5", x.seatOf(2), 1);
        CHECK.due("14 then standing 4", x.seatOf(0), 2);
    }

    private static void promise14SeatsOnTheNearestFloor() {
        OpenFloors x = Buildings.of(new int[] {1, 9, 1, 9}, new int[] {0, 99, 0, 99}, 0, 0);
        x.book(0, 3);
        x.book(1, 3);
        x.nextDay();
        CHECK.due("14 the nearest open one", x.seatOf(0), 2);
        CHECK.due("14 the nearest open one with a free seat", x.seatOf(1), 0);
        OpenFloors y = Buildings.of(new int[] {3, 1, 3}, Buildings.costs(3), 0, 0, 1);
        y.book(0, 0);
        y.book(1, 2);
        y.book(2, 1);
        y.nextDay();
        CHECK.due("14 nearness before the team", y.seatOf(2), 1);
    }

    private static OpenFloors twoOpenOfThree(int... teams) {
        return Buildings.of(new int[] {3, 3, 3}, new int[] {0, 99, 0}, teams);
    }

    private static void promise14SeatsByTeam() {
        OpenFloors x = twoOpenOfThree(1, 0, 1, 1, 0);
        x.book(0, 2);
        x.book(1, 0);
        x.book(2, 1);
        x.book(4, 1);
        x.nextDay();
        CHECK.due("14 with the team on floor 2", x.seatOf(2), 2);
        CHECK.due("14 with the team on floor 0", x.seatOf(4), 0);
        OpenFloors y = twoOpenOfThree(1, 0, 0, 2, 1);
        y.book(0, 2);
        y.book(1, 0);
        y.book(2, 0);
        y.book(4, 1);
        y.nextDay();
        CHECK.due("14 the team counts, not the crowd", y.seatOf(4), 2);
        OpenFloors z = twoOpenOfThree(1, 1, 1, 1, 0);
        z.book(0, 2);
        z.book(1, 2);
        z.book(2, 0);
        z.book(3, 1);
        z.nextDay();
        CHECK.due("14 more of the team", z.seatOf(3), 2);
    }

    private static void promise14LowestFloorOfSeveral() {
        OpenFloors x = twoOpenOfThree(1, 0, 2, 3, 3);
        x.book(0, 2);
        x.book(1, 0);
        x.book(2, 1);
        x.nextDay();
        CHECK.due("14 no team on either", x.seatOf(2), 0);
        x.book(3, 0);
        x.book(4, 2);
        x.book(2, 1);
        x.nextDay();
        CHECK.due("14 teams of yesterday do not count", x.seatOf(2), 0);
    }

    private static void promise14And15LastDay() {
        OpenFloors x = Buildings.ofOneFloor(0);
        for (int day = 0; day < 365; day++) {
            if (x.day() != day) {
                CHECK.due("15 day", x.day(), day);
            }
            x.nextDay();
            if (day == 363) {
                x.book(0, 0);
            }
        }
        CHECK.due("15 the last day", x.day(), 365);
        CHECK.due("14 a seat on the last day", x.seatOf(0), 0);
        CHECK.refused("14 nextDay on day 365", x, IllegalStateException.class, x::nextDay);
        CHECK.due("15 still the last day", x.day(), 365);
        CHECK.due("16 comeIn on the last day", x.comeIn(0), 0);
    }

    private static void promise16ComeIn() {
        OpenFloors x = Buildings.of(new int[] {1, 1}, Buildings.costs(2), 0, 0);
        Buildings.bookAll(x, 1, 0, 1);
        x.nextDay();
        CHECK.due("16 comeIn(0)", x.comeIn(0), 1);
        CHECK.due("16 comeIn(1)", x.comeIn(1), 0);
        CHECK.due("16 isIn(0)", x.isIn(0), true);
        x.leave(0);
        CHECK.due("16 again on this day", x.comeIn(0), 1);
        CHECK.due("16 isIn(0) again", x.isIn(0), true);
    }

    private static void promise16Refusals() {
        OpenFloors x = Buildings.ofOneFloor(0, 0);
        x.book(0, 0);
        CHECK.refused("16 a booking is no seat yet", x, NoSuchElementException.class, () -> x.comeIn(0));
        x.nextDay();
        for (int bad : FAR_OUT) {
            CHECK.refused("16 comeIn(" + bad + ")", x, NoSuchElementException.class, () -> x.comeIn(bad));
        }
        CHECK.refused("16 without a seat", x, NoSuchElementException.class, () -> x.comeIn(1));
        x.comeIn(0);
        CHECK.refused("16 in already", x, IllegalStateException.class, () -> x.comeIn(0));
        x.nextDay();
        CHECK.refused("16 a seat of yesterday", x, NoSuchElementException.class, () -> x.comeIn(0));
    }

    private static void promise17Leave() {
        OpenFloors x = Buildings.ofOneFloor(0, 0, 1);
        Buildings.bookAll(x, 0, 0, 1, 2);
        x.nextDay();
        CHECK.refused("17 not in", x, IllegalStateException.class, () -> x.leave(0));
        Buildings.comeAll(x, 0, 1, 2);
        CHECK.due("17 leave(1)", x.leave(1), 2);
        CHECK.due("17 isIn(1)", x.isIn(1), false);
        CHECK.due("17 the seat stays", x.seatOf(1), 0);
        CHECK.refused("17 left already", x, IllegalStateException.class, () -> x.leave(1));
        CHECK.due("17 leave(0)", x.leave(0), 1);
        CHECK.due("17 leave(2)", x.leave(2), 0);
        for (int bad : FAR_OUT) {
            CHECK.refused("17 leave(" + bad + ")", x, NoSuchElementException.class, () -> x.leave(bad));
        }
        x.comeIn(2);
        x.nextDay();
        CHECK.refused("17 left with the day", x, IllegalStateException.class, () -> x.leave(2));
    }

    private static void promise18To20AfterADay() {
        OpenFloors x = Buildings.of(new int[] {1, 1, 1}, Buildings.costs(3), 0, 0);
        CHECK.due("18 seatOf at first", x.seatOf(0), -1);
        CHECK.due("19 isIn at first", x.isIn(0), false);
        CHECK.due("20 isOpen at first", x.isOpen(2), false);
        x.book(0, 2);
        x.nextDay();
        CHECK.due("18 seatOf(0)", x.seatOf(0), 2);
        CHECK.due("18 seatOf(1)", x.seatOf(1), -1);
        CHECK.due("19 isIn(0) before coming", x.isIn(0), false);
        CHECK.due("20 isOpen(2)", x.isOpen(2), true);
        CHECK.due("20 isOpen(1)", x.isOpen(1), false);
        CHECK.due("20 a new floor is closed", x.isOpen(x.addFloor(1, 0)), false);
        x.comeIn(0);
        CHECK.due("19 isIn(0)", x.isIn(0), true);
        CHECK.due("19 isIn(1)", x.isIn(1), false);
    }

    private static void promise18To20Refusals() {
        OpenFloors x = Buildings.of(new int[] {1, 1, 1}, Buildings.costs(3), 0, 0);
        for (int bad : FAR_OUT) {
            CHECK.refused("18 seatOf(" + bad + ")", x, NoSuchElementException.class, () -> x.seatOf(bad));
            CHECK.refused("19 isIn(" + bad + ")", x, NoSuchElementException.class, () -> x.isIn(bad));
            CHECK.refused("20 isOpen(" + bad + ")", x, IndexOutOfBoundsException.class, () -> x.isOpen(bad));
        }
        CHECK.refused("18 seatOf(2)", x, NoSuchElementException.class, () -> x.seatOf(2));
        CHECK.refused("19 isIn(2)", x, NoSuchElementException.class, () -> x.isIn(2));
        CHECK.refused("20 isOpen(3)", x, IndexOutOfBoundsException.class, () -> x.isOpen(3));
    }

    private static void promise21Seated() {
        OpenFloors x = Buildings.of(new int[] {3, 3}, Buildings.costs(2), 0, 3, 3, 0);
        x.book(0, 0);
        x.book(1, 0);
        x.book(2, 0);
        x.book(3, 1);
        CHECK.due("21 bookings are no seats", x.seated(0, 0), 0);
        x.nextDay();
        CHECK.due("21 seated(0, 0)", x.seated(0, 0), 1);
        CHECK.due("21 seated(3, 0)", x.seated(3, 0), 2);
        CHECK.due("21 seated(0, 1)", x.seated(0, 1), 1);
        CHECK.due("21 seated(3, 1)", x.seated(3, 1), 0);
        CHECK.due("21 seated(1, 0)", x.seated(1, 0), 0);
        Buildings.comeAll(x, 1, 2);
        x.leave(1);
        CHECK.due("21 seats count, not presence", x.seated(3, 0), 2);
        x.nextDay();
        CHECK.due("21 seated on a new day", x.seated(3, 0), 0);
    }

    private static void promise21Refusals() {
        OpenFloors x = Buildings.of(new int[] {3, 3}, Buildings.costs(2), 0);
        for (int bad : FAR_OUT) {
            CHECK.refused("21 seated(0, " + bad + ")", x, IndexOutOfBoundsException.class, () -> x.seated(0, bad));
            CHECK.refused("21 seated(" + bad + ", 1)", x, IllegalArgumentException.class, () -> x.seated(bad, 1));
            CHECK.refused("21 both bad", x, IndexOutOfBoundsException.class, () -> x.seated(bad, bad));
        }
        CHECK.refused("21 seated(4, 0)", x, IllegalArgumentException.class, () -> x.seated(4, 0));
        CHECK.refused("21 seated(0, 2)", x, IndexOutOfBoundsException.class, () -> x.seated(0, 2));
        CHECK.refused("21 seated(4, 2)", x, IndexOutOfBoundsException.class, () -> x.seated(4, 2));
    }
}
