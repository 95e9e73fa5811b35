import java.util.ArrayList;
import java.util.NoSuchElementException;

/** The digital double of an office building; the document's numbered promises say what each call does. */
public final class OpenFloors {
    private static final int MAX_FLOORS = 6;
    private static final int MAX_SEATS = 12;
    private static final int MAX_COST = 99;
    private static final int MAX_PEOPLE = 12;
    private static final int TEAMS = 4;
    private static final int FIRST_STANDING = 5;
    private static final int TOP_STANDING = 10;
    private static final int LAST_DAY = 365;
    private static final int MAX_HOURS = 24;

    private static final int LOSS_PER_STEP = 3;
    private static final int MINUTES_PER_FLOOR = 10;
    private static final int MINUTES_PER_GUEST = 5;

    private static final int FIRST_WARMTH = 180;
    private static final int OPEN_WARMTH = 210;
    private static final int WARMTH_PER_PERSON = 4;
    private static final int CLOSED_WARMTH = 150;
    private static final int WARMTH_SLOWNESS = 4;
    private static final int PLEASANT_WARMTH = 215;
    private static final int WARMTH_PER_DISCOMFORT = 10;

    private static final int FRESH_AIR = 400;
    private static final int AIR_PER_PERSON = 25;
    private static final int OPEN_AIRING = 30;
    private static final int CLOSED_AIRING = 10;
    private static final int STALE_AIR = 500;

    // A key is a loss times KEY_STEP plus the number of a set (below 64): so the
    // least key is that of the least loss and, of several, of the least number.
    private static final int KEY_STEP = 64;
    private static final int NO_KEY = Integer.MAX_VALUE;
    // Farther from every floor than any other floor is.
    private static final int FAR = 100;

    private final ArrayList<Floor> floors = new ArrayList<>();
    private final ArrayList<Person> people = new ArrayList<>();
    // Those who have a booking, in the order in which the bookings were made.
    private final ArrayList<Person> booked = new ArrayList<>();
    private int day = 0;
    private int noShows = 0;
    private long energy = 0;
    private long discomfort = 0;
    private long cleaning = 0;

    /** A floor with its warmth and air. */
    private static final class Floor {
        private final int number;
        private final int seats;
        private int cost;
        private boolean open = false;
        private int warmth = FIRST_WARMTH;
        private int air = FRESH_AIR;
        // By seats (counted up to the number of bookings): the least key of the
        // sets whose highest floor is this one. Kept here to be used again.
        private final int[] keys = new int[MAX_PEOPLE + 1];

        Floor(int number, int seats, int cost) {
            this.number = number;
            this.seats = seats;
            this.cost = cost;
        }

        int bit() {
            return 1 << number;
        }

        boolean isPartOf(int set) {
            return (set & bit()) != 0;
        }

        int distanceTo(Floor other) {
            return Math.abs(number - other.number);
        }

        void forgetKeys() {
            for (int i = 0; i < keys.length; i++) {
                keys[i] = NO_KEY;
            }
        }

        int keyFor(int seatsUpToHere) {
            boolean known = seatsUpToHere >= 0 && seatsUpToHere < keys.length;
            return known ? keys[seatsUpToHere] : NO_KEY;
        }

        void offerKey(int seatsUpToHere, int key) {
            if (seatsUpToHere >= 0 && seatsUpToHere < keys.length && key < keys[seatsUpToHere]) {
                keys[seatsUpToHere] = key;
            }
        }

        /** Lets the warmth follow for an hour and returns the energy that this takes. */
        int followWarmth(int present) {
            int wanted = open ? OPEN_WARMTH + WARMTH_PER_PERSON * present : CLOSED_WARMTH;
            int change = (wanted - warmth) / WARMTH_SLOWNESS;
            warmth += change;
            return open ? Math.abs(change) : 0;
        }

        void followAir(int present) {
            int airing = open ? OPEN_AIRING : CLOSED_AIRING;
            air = Math.max(air + AIR_PER_PERSON * present - airing, FRESH_AIR);
        }

        int discomfortOfOnePerson() {
            int ofWarmth = Math.abs(warmth - PLEASANT_WARMTH) / WARMTH_PER_DISCOMFORT;
            return air > STALE_AIR ? ofWarmth + 1 : ofWarmth;
        }
    }

    /** A person with the booking for the next day and the seat of this day. */
    private static final class Person {
        private final int number;
        private final int team;
        private int standing = FIRST_STANDING;
        // null: no booking
        private Floor wanted = null;
        // null: no seat
        private Floor seat = null;
        private boolean in = false;
        private boolean came = false;

        Person(int number, int team) {
            this.number = number;
            this.team = team;
        }

        boolean isNoShow() {
            return seat != null && !came;
        }

        void judge() {
            if (seat == null) {
                return;
            }
            int judged = came ? standing + 1 : standing - 1;
            standing = Math.max(0, Math.min(judged, TOP_STANDING));
        }

        void goHome() {
            seat = null;
            in = false;
            came = false;
        }
    }

    public OpenFloors() {
    }

    // ---- floors and people

    public int addFloor(int seats, int cost) throws IllegalArgumentException, IllegalStateException {
        if (seats < 1 || seats > MAX_SEATS) {
            throw new IllegalArgumentException("a floor has 1 to 12 seats");
        }
        checkCost(cost);
        int number = floors.size();
        if (number >= MAX_FLOORS) {
            throw new IllegalStateException("there are 6 floors");
        }
        floors.add(new Floor(number, seats, cost));
        return number;
    }

    public int setCost(int floor, int cost) throws IndexOutOfBoundsException, IllegalArgumentException {
        Floor changed = existingFloor(floor);
        checkCost(cost);
        int before = changed.cost;
        changed.cost = cost;
        return before;
    }

    public int addPerson(int team) throws IllegalArgumentException, IllegalStateException {
        checkTeam(team);
        int number = people.size();
        if (number >= MAX_PEOPLE) {
            throw new IllegalStateException("there are 12 people");
        }
        people.add(new Person(number, team));
        return number;
    }

    public int standing(int person) throws NoSuchElementException {
        return existingPerson(person).standing;
    }

    // ---- bookings and the plan

    public int book(int person, int floor) throws NoSuchElementException, IndexOutOfBoundsException,
            IllegalStateException, UnsupportedOperationException {
        Person who = existingPerson(person);
        Floor wanted = existingFloor(floor);
        if (who.wanted != null) {
            throw new IllegalStateException("the person has a booking");
        }
        if (booked.size() >= seatsOfSet(allFloors())) {
            throw new UnsupportedOperationException("all seats are booked");
        }
        who.wanted = wanted;
        booked.add(who);
        return booked.size();
    }

    public int cancel(int person) throws NoSuchElementException {
        Person who = existingPerson(person);
        Floor wanted = who.wanted;
        if (wanted == null) {
            throw new NoSuchElementException("the person has no booking");
        }
        who.wanted = null;
        removeBooking(who);
        return wanted.number;
    }

    public int bookings() {
        return booked.size();
    }

    public int bookingAt(int index) throws IndexOutOfBoundsException {
        if (index < 0 || index >= booked.size()) {
            throw new IndexOutOfBoundsException("there is no such booking");
        }
        return booked.get(index).number;
    }

    public int plan() {
        return findPlanKey() % KEY_STEP;
    }

    public int planByTrying() {
        int best = 0;
        int leastLoss = Integer.MAX_VALUE;
        int last = allFloors();
        // Upwards, so that of several sets the one with the least number stays.
        for (int set = 0; set <= last; set++) {
            int loss = fits(set) ? lossOfSet(set) : Integer.MAX_VALUE;
            if (loss < leastLoss) {
                best = set;
                leastLoss = loss;
            }
        }
        return best;
    }

    public int planLoss() {
        return findPlanKey() / KEY_STEP;
    }

    public int lossOf(int set) throws IllegalArgumentException, UnsupportedOperationException {
        if (set < 0 || set > allFloors()) {
            throw new IllegalArgumentException("there is no such set of floors");
        }
        if (!fits(set)) {
            throw new UnsupportedOperationException("the set does not fit");
        }
        return lossOfSet(set);
    }

    // ---- days and badges

    public int nextDay() throws IllegalStateException {
        if (day >= LAST_DAY) {
            throw new IllegalStateException("day 365 is the last one");
        }
        int missed = countNoShows();
        judgePeople();
        cleanOpenFloors();
        sendPeopleHome();
        openFloorsOf(plan());
        giveSeats();
        dropBookings();
        noShows += missed;
        day++;
        return missed;
    }

    public int day() {
        return day;
    }

    public int comeIn(int person) throws NoSuchElementException, IllegalStateException {
        Person who = existingPerson(person);
        Floor seat = who.seat;
        if (seat == null) {
            throw new NoSuchElementException("the person has no seat");
        }
        if (who.in) {
            throw new IllegalStateException("the person is in the building");
        }
        who.in = true;
        who.came = true;
        return seat.number;
    }

    public int leave(int person) throws NoSuchElementException, IllegalStateException {
        Person who = existingPerson(person);
        if (!who.in) {
            throw new IllegalStateException("the person is not in the building");
        }
        who.in = false;
        return countPeopleIn();
    }

    public int seatOf(int person) throws NoSuchElementException {
        Floor seat = existingPerson(person).seat;
        return seat == null ? -1 : seat.number;
    }

    public boolean isIn(int person) throws NoSuchElementException {
        return existingPerson(person).in;
    }

    public boolean isOpen(int floor) throws IndexOutOfBoundsException {
        return existingFloor(floor).open;
    }

    public int seated(int team, int floor) throws IndexOutOfBoundsException, IllegalArgumentException {
        Floor where = existingFloor(floor);
        checkTeam(team);
        return countTeamOn(team, where);
    }

    // ---- hours

    public int pass(int hours) throws IllegalArgumentException {
        if (hours < 1 || hours > MAX_HOURS) {
            throw new IllegalArgumentException("1 to 24 hours pass");
        }
        int used = 0;
        for (int hour = 0; hour < hours; hour++) {
            for (int i = 0; i < floors.size(); i++) {
                used += passHourOn(floors.get(i));
            }
        }
        energy += used;
        return used;
    }

    public int warmth(int floor) throws IndexOutOfBoundsException {
        return existingFloor(floor).warmth;
    }

    public int air(int floor) throws IndexOutOfBoundsException {
        return existingFloor(floor).air;
    }

    // ---- totals

    public long energy() {
        return energy;
    }

    public long discomfort() {
        return discomfort;
    }

    public long cleaning() {
        return cleaning;
    }

    public int noShows() {
        return noShows;
    }

    public double meanStanding() throws ArithmeticException {
        if (people.isEmpty()) {
            throw new ArithmeticException("there are no people");
        }
        int sum = 0;
        for (int i = 0; i < people.size(); i++) {
            sum += people.get(i).standing;
        }
        return (double) sum / (double) people.size();
    }

    public float givenShare() throws ArithmeticException {
        int given = 0;
        int seats = 0;
        for (int i = 0; i < floors.size(); i++) {
            Floor floor = floors.get(i);
            given += countSeatsGivenOn(floor);
            seats += floor.open ? floor.seats : 0;
        }
        if (seats == 0) {
            throw new ArithmeticException("no floor is open");
        }
        return (float) given / (float) seats;
    }

    public boolean isSound() {
        return plan() == planByTrying() && peopleAreSound() && floorsAreSound();
    }

    // ---- what the calls above ask for

    private Floor existingFloor(int floor) {
        if (floor < 0 || floor >= floors.size()) {
            throw new IndexOutOfBoundsException("there is no such floor");
        }
        return floors.get(floor);
    }

    private Person existingPerson(int person) {
        if (person < 0 || person >= people.size()) {
            throw new NoSuchElementException("there is no such person");
        }
        return people.get(person);
    }

    private static void checkCost(int cost) {
        if (cost < 0 || cost > MAX_COST) {
            throw new IllegalArgumentException("a cost is 0 to 99");
        }
    }

    private static void checkTeam(int team) {
        if (team < 0 || team >= TEAMS) {
            throw new IllegalArgumentException("a team is 0 to 3");
        }
    }

    private void removeBooking(Person who) {
        for (int i = 0; i < booked.size(); i++) {
            if (booked.get(i) == who) {
                booked.remove(i);
                return;
            }
        }
    }

    // ---- sets of floors

    /** The number of the set of all floors, the greatest that there is. */
    private int allFloors() {
        return (1 << floors.size()) - 1;
    }

    private int seatsOfSet(int set) {
        int seats = 0;
        for (int i = 0; i < floors.size(); i++) {
            Floor floor = floors.get(i);
            seats += floor.isPartOf(set) ? floor.seats : 0;
        }
        return seats;
    }

    /** The empty set has no seats, so that it fits without bookings alone. */
    private boolean fits(int set) {
        return seatsOfSet(set) >= booked.size();
    }

    private int lossOfSet(int set) {
        int loss = 0;
        for (int i = 0; i < floors.size(); i++) {
            Floor floor = floors.get(i);
            loss += floor.isPartOf(set) ? floor.cost : 0;
        }
        for (int i = 0; i < booked.size(); i++) {
            Floor wanted = booked.get(i).wanted;
            loss += wanted == null ? 0 : LOSS_PER_STEP * distanceToSet(wanted, set);
        }
        return loss;
    }

    private int distanceToSet(Floor wanted, int set) {
        int least = FAR;
        for (int i = 0; i < floors.size(); i++) {
            Floor floor = floors.get(i);
            if (floor.isPartOf(set)) {
                least = Math.min(least, wanted.distanceTo(floor));
            }
        }
        return least;
    }

    // ---- the plan, floor by floor

    /** The key of the plan: each floor in turn is taken as the highest of the set. */
    private int findPlanKey() {
        int needed = booked.size();
        if (needed == 0) {
            return 0;
        }
        int least = NO_KEY;
        for (int i = 0; i < floors.size(); i++) {
            Floor highest = floors.get(i);
            findKeysUpTo(highest, needed);
            int key = highest.keyFor(needed);
            if (key != NO_KEY) {
                least = Math.min(least, key + KEY_STEP * lossBetween(highest.number, FAR));
            }
        }
        return least == NO_KEY ? 0 : least;
    }

    /** The keys count the bookings that want this floor or one below it. */
    private void findKeysUpTo(Floor highest, int needed) {
        highest.forgetKeys();
        int alone = highest.cost + lossBetween(-FAR, highest.number);
        highest.offerKey(Math.min(highest.seats, needed), KEY_STEP * alone + highest.bit());
        for (int i = 0; i < highest.number && i < floors.size(); i++) {
            addFloorToSetsOf(floors.get(i), highest, needed);
        }
    }

    private void addFloorToSetsOf(Floor lower, Floor highest, int needed) {
        int added = highest.cost + lossBetween(lower.number, highest.number);
        for (int seats = 0; seats <= needed; seats++) {
            int key = lower.keyFor(seats);
            if (key != NO_KEY) {
                int seatsThen = Math.min(seats + highest.seats, needed);
                highest.offerKey(seatsThen, key + KEY_STEP * added + highest.bit());
            }
        }
    }

    /** The loss of the bookings that want a floor between two open ones that have no open one between them. */
    private int lossBetween(int low, int high) {
        int steps = 0;
        for (int i = 0; i < booked.size(); i++) {
            Floor wanted = booked.get(i).wanted;
            if (wanted != null && wanted.number > low && wanted.number < high) {
                steps += Math.min(wanted.number - low, high - wanted.number);
            }
        }
        return LOSS_PER_STEP * steps;
    }

    // ---- a new day

    private int countNoShows() {
        int missed = 0;
        for (int i = 0; i < people.size(); i++) {
            missed += people.get(i).isNoShow() ? 1 : 0;
        }
        return missed;
    }

    private void judgePeople() {
        for (int i = 0; i < people.size(); i++) {
            people.get(i).judge();
        }
    }

    private void cleanOpenFloors() {
        for (int i = 0; i < floors.size(); i++) {
            Floor floor = floors.get(i);
            if (floor.open) {
                cleaning += MINUTES_PER_FLOOR + MINUTES_PER_GUEST * countGuestsOf(floor);
            }
        }
    }

    private void sendPeopleHome() {
        for (int i = 0; i < people.size(); i++) {
            people.get(i).goHome();
        }
    }

    private void openFloorsOf(int set) {
        for (int i = 0; i < floors.size(); i++) {
            Floor floor = floors.get(i);
            floor.open = floor.isPartOf(set);
        }
    }

    private void giveSeats() {
        for (int standing = TOP_STANDING; standing >= 0; standing--) {
            for (int i = 0; i < booked.size(); i++) {
                Person who = booked.get(i);
                if (who.standing == standing) {
                    giveSeat(who);
                }
            }
        }
    }

    private void giveSeat(Person who) {
        Floor best = null;
        for (int i = 0; i < floors.size(); i++) {
            Floor floor = floors.get(i);
            boolean free = floor.open && countSeatsGivenOn(floor) < floor.seats;
            if (free && (best == null || suitsBetter(who, floor, best))) {
                best = floor;
            }
        }
        who.seat = best;
    }

    private boolean suitsBetter(Person who, Floor floor, Floor other) {
        Floor wanted = who.wanted;
        if (wanted == null) {
            return false;
        }
        int nearer = wanted.distanceTo(other) - wanted.distanceTo(floor);
        if (nearer != 0) {
            return nearer > 0;
        }
        return countTeamOn(who.team, floor) > countTeamOn(who.team, other);
    }

    private void dropBookings() {
        for (int i = 0; i < booked.size(); i++) {
            booked.get(i).wanted = null;
        }
        booked.clear();
    }

    // ---- an hour

    /** Returns the energy that the hour takes. */
    private int passHourOn(Floor floor) {
        int present = countPresentOn(floor);
        int used = floor.followWarmth(present);
        floor.followAir(present);
        discomfort += present * floor.discomfortOfOnePerson();
        return used;
    }

    // ---- counts of people

    private int countPeopleIn() {
        int count = 0;
        for (int i = 0; i < people.size(); i++) {
            count += people.get(i).in ? 1 : 0;
        }
        return count;
    }

    private int countSeatsGivenOn(Floor floor) {
        int count = 0;
        for (int i = 0; i < people.size(); i++) {
            count += people.get(i).seat == floor ? 1 : 0;
        }
        return count;
    }

    private int countTeamOn(int team, Floor floor) {
        int count = 0;
        for (int i = 0; i < people.size(); i++) {
            Person who = people.get(i);
            count += who.seat == floor && who.team == team ? 1 : 0;
        }
        return count;
    }

    private int countPresentOn(Floor floor) {
        int count = 0;
        for (int i = 0; i < people.size(); i++) {
            Person who = people.get(i);
            count += who.seat == floor && who.in ? 1 : 0;
        }
        return count;
    }

    private int countGuestsOf(Floor floor) {
        int count = 0;
        for (int i = 0; i < people.size(); i++) {
            Person who = people.get(i);
            count += who.seat == floor && who.came ? 1 : 0;
        }
        return count;
    }

    // ---- soundness

    private boolean peopleAreSound() {
        for (int i = 0; i < people.size(); i++) {
            Person who = people.get(i);
            Floor seat = who.seat;
            boolean sound = seat == null ? !who.in : seat.open;
            if (!sound) {
                return false;
            }
        }
        return true;
    }

    private boolean floorsAreSound() {
        for (int i = 0; i < floors.size(); i++) {
            Floor floor = floors.get(i);
            if (countSeatsGivenOn(floor) > floor.seats) {
                return false;
            }
        }
        return true;
    }
}
