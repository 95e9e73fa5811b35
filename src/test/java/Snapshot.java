/** All that can be asked of a building without changing it, as one text; some 100 calls at the most. */
final class Snapshot {
    private static final String[] OF_THE_BUILDING = {"day", "bookings", "plan", "planByTrying", "planLoss", "energy",
        "discomfort", "cleaning", "noShows", "meanStanding", "givenShare", "isSound"};
    private static final String[] OF_A_FLOOR = {"isOpen", "warmth", "air"};
    private static final String[] OF_A_PERSON = {"standing", "seatOf", "isIn"};

    private final Building building;
    private final StringBuilder text = new StringBuilder();

    private Snapshot(Building building) {
        this.building = building;
    }

    static String of(Building building) {
        Snapshot snapshot = new Snapshot(building);
        for (String name : OF_THE_BUILDING) {
            snapshot.ask(name);
        }
        int floors = snapshot.askEach(OF_A_FLOOR);
        for (int floor = 0; floor < floors; floor++) {
            snapshot.ask("lossOf", 1 << floor);
        }
        snapshot.ask("lossOf", (1 << floors) - 1);
        snapshot.askEach("bookingAt");
        snapshot.askEach(OF_A_PERSON);
        return snapshot.text.toString();
    }

    /** The state, and then what an hour and a new day make of it: they show what no call tells at once. */
    static String ofThisDayAndTheNext(Building building) {
        String today = of(building);
        building.answer("pass", 1);
        building.answer("nextDay");
        return today + "; then " + of(building);
    }

    private String ask(String name, int... arguments) {
        String answer = building.answer(name, arguments);
        text.append(Call.told(name, arguments)).append(" = ").append(answer).append("; ");
        return answer;
    }

    /** Asks from 0 on, until there is no such number; returns how many there are. */
    private int askEach(String... names) {
        int number = 0;
        while (!ask(names[0], number).startsWith("throws")) {
            for (int i = 1; i < names.length; i++) {
                ask(names[i], number);
            }
            number++;
        }
        return number;
    }
}
