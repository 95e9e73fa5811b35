import java.util.NoSuchElementException;

/** Promises 1 to 5. */
public final class FloorsAndPeopleTest {
    private static final Check CHECK = new Check("FloorsAndPeopleTest");
    private static final int[] FAR_OUT = {Integer.MIN_VALUE, -1, Integer.MAX_VALUE};

    public static void main(String[] args) {
        promise1ANewObject();
        promise2AddFloor();
        promise2Refusals();
        promise3SetCost();
        promise4AddPerson();
        promise5StandingRises();
        promise5StandingFalls();
        promise5StandingWithoutASeat();
        CHECK.close();
    }

    private static void promise1ANewObject() {
        OpenFloors x = new OpenFloors();
        CHECK.due("1 day", x.day(), 0);
        CHECK.due("1 bookings", x.bookings(), 0);
        CHECK.due("1 plan", x.plan(), 0);
        CHECK.due("1 planByTrying", x.planByTrying(), 0);
        CHECK.due("1 planLoss", x.planLoss(), 0);
        CHECK.due("1 lossOf(0)", x.lossOf(0), 0);
        CHECK.due("1 energy", x.energy(), 0L);
        CHECK.due("1 discomfort", x.discomfort(), 0L);
        CHECK.due("1 cleaning", x.cleaning(), 0L);
        CHECK.due("1 noShows", x.noShows(), 0);
        CHECK.due("1 isSound", x.isSound(), true);
        CHECK.due("1 pass(24)", x.pass(24), 0);
        CHECK.due("1 nextDay", x.nextDay(), 0);
        CHECK.refused("1 isOpen(0)", x, IndexOutOfBoundsException.class, () -> x.isOpen(0));
        CHECK.refused("1 standing(0)", x, NoSuchElementException.class, () -> x.standing(0));
        CHECK.due("1 another object's day", new OpenFloors().day(), 0);
    }

    private static void promise2AddFloor() {
        OpenFloors x = new OpenFloors();
        CHECK.due("2 addFloor(1, 0)", x.addFloor(1, 0), 0);
        CHECK.due("2 addFloor(12, 99)", x.addFloor(12, 99), 1);
        CHECK.due("2 addFloor(5, 7)", x.addFloor(5, 7), 2);
        for (int floor = 0; floor < 3; floor++) {
            CHECK.due("2 isOpen(" + floor + ")", x.isOpen(floor), false);
            CHECK.due("2 warmth(" + floor + ")", x.warmth(floor), 180);
            CHECK.due("2 air(" + floor + ")", x.air(floor), 400);
        }
        CHECK.due("2 cost of floor 0", x.lossOf(1), 0);
        CHECK.due("2 cost of floor 1", x.lossOf(2), 99);
        CHECK.due("2 cost of floor 2", x.lossOf(4), 7);
    }

    private static void promise2Refusals() {
        OpenFloors x = new OpenFloors();
        for (int bad : new int[] {0, 13, Integer.MIN_VALUE, -1, Integer.MAX_VALUE}) {
            CHECK.refused("2 addFloor(" + bad + ", 1)", x, IllegalArgumentException.class, () -> x.addFloor(bad, 1));
        }
        for (int bad : new int[] {100, Integer.MIN_VALUE, -1, Integer.MAX_VALUE}) {
            CHECK.refused("2 addFloor(1, " + bad + ")", x, IllegalArgumentException.class, () -> x.addFloor(1, bad));
        }
        for (int floor = 0; floor < 6; floor++) {
            CHECK.due("2 addFloor, the number", x.addFloor(1, floor), floor);
        }
        OpenFloors full = Buildings.of(new int[] {1, 1, 1, 1, 1, 1}, Buildings.costs(6));
        CHECK.refused("2 a 7th floor", full, IllegalStateException.class, () -> full.addFloor(1, 1));
        CHECK.refused("2 a 7th without seats", full, IllegalArgumentException.class, () -> full.addFloor(0, 1));
        CHECK.refused("2 a 7th too dear", full, IllegalArgumentException.class, () -> full.addFloor(1, 100));
        CHECK.refused("2 floor 6", full, IndexOutOfBoundsException.class, () -> full.isOpen(6));
    }

    private static void promise3SetCost() {
        OpenFloors x = Buildings.of(new int[] {2, 2}, new int[] {10, 20}, 0);
        CHECK.due("3 setCost(0, 0)", x.setCost(0, 0), 10);
        CHECK.due("3 setCost(0, 99)", x.setCost(0, 99), 0);
        CHECK.due("3 setCost(1, 5)", x.setCost(1, 5), 20);
        CHECK.due("3 setCost(1, 5) again", x.setCost(1, 5), 5);
        CHECK.due("3 lossOf(1)", x.lossOf(1), 99);
        CHECK.due("3 lossOf(2)", x.lossOf(2), 5);
        x.book(0, 0);
        CHECK.due("3 the plan by cost", x.plan(), 2);
        x.setCost(0, 1);
        CHECK.due("3 the plan after the cost", x.plan(), 1);
        for (int bad : new int[] {2, Integer.MIN_VALUE, -1, Integer.MAX_VALUE}) {
            CHECK.refused("3 setCost(" + bad + ", 1)", x, IndexOutOfBoundsException.class, () -> x.setCost(bad, 1));
        }
        for (int bad : new int[] {100, Integer.MIN_VALUE, -1, Integer.MAX_VALUE}) {
            CHECK.refused("3 setCost(1, " + bad + ")", x, IllegalArgumentException.class, () -> x.setCost(1, bad));
        }
        CHECK.refused("3 setCost(2, 100)", x, IndexOutOfBoundsException.class, () -> x.setCost(2, 100));
    }

    private static void promise4AddPerson() {
        OpenFloors x = new OpenFloors();
        for (int bad : new int[] {4, Integer.MIN_VALUE, -1, Integer.MAX_VALUE}) {
            CHECK.refused("4 addPerson(" + bad + ")", x, IllegalArgumentException.class, () -> x.addPerson(bad));
        }
        for (int person = 0; person < 12; person++) {
            CHECK.due("4 addPerson, the number", x.addPerson(person % 4), person);
            CHECK.due("4 seatOf(" + person + ")", x.seatOf(person), -1);
            CHECK.due("4 isIn(" + person + ")", x.isIn(person), false);
        }
        CHECK.refused("4 a 13th", x, IllegalStateException.class, () -> x.addPerson(0));
        CHECK.refused("4 a 13th of team 4", x, IllegalArgumentException.class, () -> x.addPerson(4));
        CHECK.refused("4 person 12", x, NoSuchElementException.class, () -> x.standing(12));
    }

    private static void promise5StandingRises() {
        OpenFloors x = Buildings.ofOneFloor(0);
        CHECK.due("5 standing at first", x.standing(0), 5);
        for (int bad : FAR_OUT) {
            CHECK.refused("5 standing(" + bad + ")", x, NoSuchElementException.class, () -> x.standing(bad));
        }
        CHECK.refused("5 standing(1)", x, NoSuchElementException.class, () -> x.standing(1));
        x.book(0, 0);
        x.nextDay();
        for (int days = 1; days <= 7; days++) {
            x.comeIn(0);
            x.book(0, 0);
            CHECK.due("5 nextDay after coming", x.nextDay(), 0);
            CHECK.due("5 standing after coming " + days + " times", x.standing(0), Math.min(5 + days, 10));
        }
    }

    private static void promise5StandingFalls() {
        OpenFloors x = Buildings.ofOneFloor(0, 1);
        x.book(0, 0);
        x.nextDay();
        for (int days = 1; days <= 7; days++) {
            x.book(0, 0);
            CHECK.due("5 nextDay after no-show", x.nextDay(), 1);
            CHECK.due("5 standing after " + days + " no-shows", x.standing(0), Math.max(5 - days, 0));
            CHECK.due("5 standing of another", x.standing(1), 5);
        }
        CHECK.due("5 a no-show at 0 counts too", x.noShows(), 7);
    }

    private static void promise5StandingWithoutASeat() {
        OpenFloors x = Buildings.ofOneFloor(0);
        x.nextDay();
        x.nextDay();
        CHECK.due("5 standing without a seat", x.standing(0), 5);
        x.book(0, 0);
        x.nextDay();
        CHECK.due("5 standing after a day without a seat", x.standing(0), 5);
    }
}
