import java.util.ArrayList;
import java.util.Comparator;
import java.util.HashMap;
import java.util.HashSet;
import java.util.LinkedHashMap;
import java.util.List;
import java.util.Map;
import java.util.NoSuchElementException;
import java.util.Set;
import java.util.stream.IntStream;

/** The document's words once more, with the whole Java library and no thought of speed, to compare answers with. */
final class Model {
    private final List<Integer> seats = new ArrayList<>();
    private final List<Integer> costs = new ArrayList<>();
    private final List<Integer> warmths = new ArrayList<>();
    private final List<Integer> airs = new ArrayList<>();
    private final List<Integer> teams = new ArrayList<>();
    private final List<Integer> standings = new ArrayList<>();
    private final Map<Integer, Integer> seatOf = new HashMap<>();
    private final Set<Integer> in = new HashSet<>();
    private final Set<Integer> came = new HashSet<>();
    private Map<Integer, Integer> wanted = new LinkedHashMap<>();
    private int open = 0;
    private int day = 0;
    private int noShows = 0;
    private long energy = 0;
    private long discomfort = 0;
    private long cleaning = 0;

    private static void refuse(boolean refused, RuntimeException e) {
        if (refused) {
            throw e;
        }
    }

    private void needPerson(int person) {
        refuse(person < 0 || person >= teams.size(), new NoSuchElementException());
    }

    private void needFloor(int floor) {
        refuse(floor < 0 || floor >= seats.size(), new IndexOutOfBoundsException());
    }

    private static boolean has(int set, int floor) {
        return (set >> floor) % 2 == 1;
    }

    private IntStream floors() {
        return IntStream.range(0, seats.size());
    }

    private IntStream floors(int set) {
        return floors().filter(floor -> has(set, floor));
    }

    public int addFloor(int seats, int cost) {
        refuse(seats < 1 || seats > 12 || cost < 0 || cost > 99, new IllegalArgumentException());
        refuse(this.seats.size() == 6, new IllegalStateException());
        this.seats.add(seats);
        costs.add(cost);
        warmths.add(180);
        airs.add(400);
        return this.seats.size() - 1;
    }

    public int setCost(int floor, int cost) {
        needFloor(floor);
        refuse(cost < 0 || cost > 99, new IllegalArgumentException());
        return costs.set(floor, cost);
    }

    public int addPerson(int team) {
        refuse(team < 0 || team > 3, new IllegalArgumentException());
        refuse(teams.size() == 12, new IllegalStateException());
        teams.add(team);
        standings.add(5);
        return teams.size() - 1;
    }

    public int standing(int person) {
        needPerson(person);
        return standings.get(person);
    }

    public int book(int person, int floor) {
        needPerson(person);
        needFloor(floor);
        refuse(wanted.containsKey(person), new IllegalStateException());
        refuse(wanted.size() == floors().map(seats::get).sum(), new UnsupportedOperationException());
        wanted.put(person, floor);
        return wanted.size();
    }

    public int cancel(int person) {
        needPerson(person);
        refuse(!wanted.containsKey(person), new NoSuchElementException());
        return wanted.remove(person);
    }

    public int bookings() {
        return wanted.size();
    }

    public int bookingAt(int index) {
        refuse(index < 0 || index >= wanted.size(), new IndexOutOfBoundsException());
        return new ArrayList<>(wanted.keySet()).get(index);
    }

    private boolean fits(int set) {
        return floors(set).map(seats::get).sum() >= wanted.size() && (wanted.isEmpty() || set != 0);
    }

    private int loss(int set) {
        int distances = wanted.values().stream()
                .mapToInt(floor -> floors(set).map(other -> Math.abs(floor - other)).min().orElseThrow()).sum();
        return floors(set).map(costs::get).sum() + 3 * distances;
    }

    public int plan() {
        return IntStream.range(0, 1 << seats.size()).filter(this::fits).boxed()
                .min(Comparator.comparingInt(this::loss).thenComparing(Comparator.naturalOrder())).orElseThrow();
    }

    public int planByTrying() {
        return plan();
    }

    public int planLoss() {
        return loss(plan());
    }

    public int lossOf(int set) {
        refuse(set < 0 || set >= 1 << seats.size(), new IllegalArgumentException());
        refuse(!fits(set), new UnsupportedOperationException());
        return loss(set);
    }

    public int nextDay() {
        refuse(day == 365, new IllegalStateException());
        int missed = 0;
        for (int person : seatOf.keySet()) {
            boolean good = came.contains(person);
            missed += good ? 0 : 1;
            int judged = standings.get(person) + (good ? 1 : -1);
            standings.set(person, Math.min(10, Math.max(0, judged)));
        }
        cleaning += floors(open).mapToLong(floor -> 10 + 5 * cameTo(floor)).sum();
        open = plan();
        in.clear();
        came.clear();
        seatOf.clear();
        wanted.keySet().stream().sorted(Comparator.comparing(person -> -standings.get(person)))
                .forEachOrdered(this::give);
        wanted = new LinkedHashMap<>();
        noShows += missed;
        day++;
        return missed;
    }

    private long cameTo(int floor) {
        return came.stream().filter(person -> seatOf.get(person) == floor).count();
    }

    private void give(int person) {
        int best = floors(open).filter(floor -> given(floor) < seats.get(floor)).boxed()
                .min(Comparator.comparingInt((Integer floor) -> Math.abs(floor - wanted.get(person)))
                        .thenComparing(floor -> -seated(teams.get(person), floor))
                        .thenComparing(Comparator.naturalOrder())).orElseThrow();
        seatOf.put(person, best);
    }

    private int given(int floor) {
        return (int) seatOf.values().stream().filter(seat -> seat == floor).count();
    }

    public int day() {
        return day;
    }

    public int comeIn(int person) {
        needPerson(person);
        refuse(!seatOf.containsKey(person), new NoSuchElementException());
        refuse(in.contains(person), new IllegalStateException());
        in.add(person);
        came.add(person);
        return seatOf.get(person);
    }

    public int leave(int person) {
        needPerson(person);
        refuse(!in.remove(person), new IllegalStateException());
        return in.size();
    }

    public int seatOf(int person) {
        needPerson(person);
        return seatOf.getOrDefault(person, -1);
    }

    public boolean isIn(int person) {
        needPerson(person);
        return in.contains(person);
    }

    public boolean isOpen(int floor) {
        needFloor(floor);
        return has(open, floor);
    }

    public int seated(int team, int floor) {
        needFloor(floor);
        refuse(team < 0 || team > 3, new IllegalArgumentException());
        return (int) seatOf.keySet().stream().filter(p -> seatOf.get(p) == floor && teams.get(p) == team).count();
    }

    public int pass(int hours) {
        refuse(hours < 1 || hours > 24, new IllegalArgumentException());
        long before = energy;
        for (int hour = 0; hour < hours; hour++) {
            floors().forEach(this::hour);
        }
        return (int) (energy - before);
    }

    private void hour(int floor) {
        int present = (int) in.stream().filter(p -> seatOf.get(p) == floor).count();
        boolean isOpen = has(open, floor);
        int goal = isOpen ? 210 + 4 * present : 150;
        int gap = goal - warmths.get(floor);
        int change = Integer.signum(gap) * (Math.abs(gap) / 4);
        warmths.set(floor, warmths.get(floor) + change);
        energy += isOpen ? Math.abs(change) : 0;
        airs.set(floor, airs.get(floor) + 25 * present);
        airs.set(floor, Math.max(400, airs.get(floor) - (isOpen ? 30 : 10)));
        for (int i = 0; i < present; i++) {
            discomfort += Math.abs(warmths.get(floor) - 215) / 10;
            discomfort += airs.get(floor) > 500 ? 1 : 0;
        }
    }

    public int warmth(int floor) {
        needFloor(floor);
        return warmths.get(floor);
    }

    public int air(int floor) {
        needFloor(floor);
        return airs.get(floor);
    }

    public long energy() {
        return energy;
    }

    public long discomfort() {
        return discomfort;
    }

    public long cleaning() {
        return cleaning;
    }

    public int noShows() {
        return noShows;
    }

    public double meanStanding() {
        refuse(teams.isEmpty(), new ArithmeticException());
        return (double) standings.stream().mapToInt(x -> x).sum() / (double) standings.size();
    }

    public float givenShare() {
        refuse(open == 0, new ArithmeticException());
        return (float) seatOf.size() / (float) floors(open).map(seats::get).sum();
    }

    public boolean isSound() {
        return true;
    }
}
