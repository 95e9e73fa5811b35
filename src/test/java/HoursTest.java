/** Promises 22 to 26. */
public final class HoursTest {
    private static final Check CHECK = new Check("HoursTest");

    public static void main(String[] args) {
        promise22Refusals();
        anHourOfOne();
        warmthFollowsSlowly();
        aClosedFloorCools();
        theAirOfTwo();
        theAirOfTwelve();
        theAirOfAClosedFloor();
        onlyThosePresentCount();
        energyOfCooling();
        floorsAreApart();
        promise23And24Refusals();
        CHECK.close();
    }

    /** One floor, on which all of these people have a seat and are in. */
    private static OpenFloors presentOnOneFloor(int people) {
        OpenFloors x = Buildings.ofOneFloor();
        for (int person = 0; person < people; person++) {
            x.addPerson(0);
            x.book(person, 0);
        }
        x.nextDay();
        for (int person = 0; person < people; person++) {
            x.comeIn(person);
        }
        return x;
    }

    private static void promise22Refusals() {
        OpenFloors x = presentOnOneFloor(2);
        for (int bad : new int[] {0, 25, Integer.MIN_VALUE, -1, Integer.MAX_VALUE}) {
            CHECK.refused("22 pass(" + bad + ")", x, IllegalArgumentException.class, () -> x.pass(bad));
        }
        CHECK.due("22 pass(24)", x.pass(24), 215 - 180);
        CHECK.due("22 the day stays", x.day(), 1);
    }

    private static void anHourOfOne() {
        OpenFloors x = presentOnOneFloor(1);
        CHECK.due("22 pass(1)", x.pass(1), 8);
        CHECK.due("23 warmth", x.warmth(0), 188);
        CHECK.due("24 air: first up, then down to 400 at least", x.air(0), 400);
        CHECK.due("25 energy", x.energy(), 8L);
        CHECK.due("26 discomfort of the warmth after the hour", x.discomfort(), 2L);
    }

    private static void warmthFollowsSlowly() {
        OpenFloors x = presentOnOneFloor(1);
        int[] warmth = {188, 194, 199, 202, 205, 207, 208, 209, 210, 211, 211, 211};
        long[] discomfort = {2, 4, 5, 6, 7, 7, 7, 7, 7, 7, 7, 7};
        int before = 180;
        for (int hour = 0; hour < warmth.length; hour++) {
            CHECK.due("22 pass(1), hour " + hour, x.pass(1), warmth[hour] - before);
            CHECK.due("23 warmth, hour " + hour, x.warmth(0), warmth[hour]);
            CHECK.due("26 discomfort, hour " + hour, x.discomfort(), discomfort[hour]);
            before = warmth[hour];
        }
        CHECK.due("25 energy of all hours", x.energy(), 31L);
        OpenFloors atOnce = presentOnOneFloor(1);
        CHECK.due("22 pass(12) at once", atOnce.pass(12), 31);
        CHECK.due("23 warmth at once", atOnce.warmth(0), 211);
        CHECK.due("26 discomfort at once", atOnce.discomfort(), 7L);
    }

    private static void aClosedFloorCools() {
        OpenFloors x = Buildings.ofOneFloor(0);
        int[] warmth = {173, 168, 164, 161, 159, 157, 156, 155, 154, 153, 153};
        for (int hour = 0; hour < warmth.length; hour++) {
            CHECK.due("22 pass(1) of a closed floor", x.pass(1), 0);
            CHECK.due("23 warmth of a closed floor, hour " + hour, x.warmth(0), warmth[hour]);
            CHECK.due("24 air of a closed floor", x.air(0), 400);
        }
        CHECK.due("25 no energy", x.energy(), 0L);
        CHECK.due("26 no discomfort", x.discomfort(), 0L);
        x.book(0, 0);
        x.nextDay();
        CHECK.due("22 pass(1) once it is open", x.pass(1), (210 - 153) / 4);
        CHECK.due("26 nobody is in", x.discomfort(), 0L);
    }

    private static void theAirOfTwo() {
        OpenFloors x = presentOnOneFloor(2);
        int[] air = {420, 440, 460, 480, 500, 520, 540};
        long[] discomfort = {4, 6, 8, 10, 10, 12, 14};
        for (int hour = 0; hour < air.length; hour++) {
            x.pass(1);
            CHECK.due("24 air of two, hour " + hour, x.air(0), air[hour]);
            CHECK.due("26 discomfort of two, hour " + hour, x.discomfort(), discomfort[hour]);
        }
        x.leave(0);
        x.leave(1);
        x.pass(1);
        CHECK.due("24 the air of none falls by 30", x.air(0), 510);
        CHECK.due("26 nobody feels it", x.discomfort(), 14L);
        x.pass(24);
        CHECK.due("24 to 400 at least", x.air(0), 400);
    }

    private static void theAirOfTwelve() {
        OpenFloors x = presentOnOneFloor(12);
        CHECK.due("22 pass(1) of twelve", x.pass(1), (258 - 180) / 4);
        CHECK.due("23 warmth of twelve", x.warmth(0), 199);
        CHECK.due("24 air of twelve", x.air(0), 670);
        CHECK.due("26 discomfort of twelve", x.discomfort(), 12L * (1 + 1));
        x.pass(24);
        CHECK.due("23 warmth of twelve in the end", x.warmth(0), 255);
        CHECK.due("24 air of twelve in the end", x.air(0), 400 + 25 * 270);
        long before = x.discomfort();
        x.pass(1);
        CHECK.due("26 too warm is discomfort too", x.discomfort() - before, 12L * (4 + 1));
    }

    private static void theAirOfAClosedFloor() {
        OpenFloors x = presentOnOneFloor(2);
        x.pass(7);
        CHECK.due("24 air before it closes", x.air(0), 540);
        x.nextDay();
        CHECK.due("24 a new day changes no air", x.air(0), 540);
        CHECK.due("23 a new day changes no warmth", x.warmth(0), 212);
        x.pass(3);
        CHECK.due("24 the air of a closed floor falls by 10", x.air(0), 510);
        x.pass(12);
        CHECK.due("24 and to 400 at least", x.air(0), 400);
    }

    private static void onlyThosePresentCount() {
        OpenFloors x = presentOnOneFloor(3);
        x.leave(0);
        x.leave(1);
        CHECK.due("22 one of three is in", x.pass(1), 8);
        CHECK.due("24 air of one of three", x.air(0), 400);
        CHECK.due("26 discomfort of one of three", x.discomfort(), 2L);
        OpenFloors y = Buildings.ofOneFloor(0);
        y.book(0, 0);
        y.nextDay();
        CHECK.due("22 nobody came", y.pass(1), 7);
        CHECK.due("23 warmth without anybody", y.warmth(0), 187);
        CHECK.due("26 discomfort without anybody", y.discomfort(), 0L);
    }

    private static void energyOfCooling() {
        OpenFloors x = presentOnOneFloor(12);
        CHECK.due("22 pass(24) of twelve", x.pass(24), 75);
        for (int person = 0; person < 12; person++) {
            x.leave(person);
        }
        CHECK.due("22 cooling takes energy too", x.pass(1), (255 - 210) / 4);
        CHECK.due("23 warmth after cooling", x.warmth(0), 244);
        CHECK.due("25 energy of both", x.energy(), 86L);
        x.nextDay();
        CHECK.due("22 a closed floor cools at no energy", x.pass(1), 0);
        CHECK.due("23 warmth of the closed floor", x.warmth(0), 244 - (244 - 150) / 4);
        CHECK.due("25 energy stays", x.energy(), 86L);
    }

    private static void floorsAreApart() {
        OpenFloors x = Buildings.of(new int[] {2, 2, 2}, new int[] {0, 0, 99}, 0, 1, 2);
        x.book(0, 0);
        x.book(1, 1);
        x.book(2, 1);
        x.nextDay();
        Buildings.comeAll(x, 0, 1, 2);
        CHECK.due("22 the energy of all floors", x.pass(1), 8 + 9);
        CHECK.due("23 warmth(0)", x.warmth(0), 188);
        CHECK.due("23 warmth(1)", x.warmth(1), 189);
        CHECK.due("23 warmth(2)", x.warmth(2), 173);
        CHECK.due("24 air(0)", x.air(0), 400);
        CHECK.due("24 air(1)", x.air(1), 420);
        CHECK.due("24 air(2)", x.air(2), 400);
        CHECK.due("26 discomfort of all floors", x.discomfort(), 2L + 2 * 2);
        x.pass(1);
        CHECK.due("25 energy adds up", x.energy(), 17L + 6 + 7);
    }

    private static void promise23And24Refusals() {
        OpenFloors x = Buildings.of(new int[] {1, 1}, Buildings.costs(2), 0);
        for (int bad : new int[] {2, 6, Integer.MIN_VALUE, -1, Integer.MAX_VALUE}) {
            CHECK.refused("23 warmth(" + bad + ")", x, IndexOutOfBoundsException.class, () -> x.warmth(bad));
            CHECK.refused("24 air(" + bad + ")", x, IndexOutOfBoundsException.class, () -> x.air(bad));
        }
    }
}
