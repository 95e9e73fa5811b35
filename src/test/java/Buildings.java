/** Buildings that the tests begin with. */
final class Buildings {
    private Buildings() {
    }

    static OpenFloors of(int[] seats, int[] costs, int... teams) {
        OpenFloors x = new OpenFloors();
        for (int floor = 0; floor < seats.length; floor++) {
            x.addFloor(seats[floor], costs[floor]);
        }
        for (int team : teams) {
            x.addPerson(team);
        }
        return x;
    }

    /** One floor with all 12 seats at no cost. */
    static OpenFloors ofOneFloor(int... teams) {
        return of(new int[] {12}, new int[] {0}, teams);
    }

    static void bookAll(OpenFloors x, int floor, int... people) {
        for (int person : people) {
            x.book(person, floor);
        }
    }

    static void comeAll(OpenFloors x, int... people) {
        for (int person : people) {
            x.comeIn(person);
        }
    }

    static int[] costs(int floors) {
        return new int[floors];
    }
}
