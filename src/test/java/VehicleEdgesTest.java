/** The edges of TRIPS and of HELD AGAINST CARDS: their terms, and promises 7 and 14. Each test bears the sentence it holds. */
public final class VehicleEdgesTest extends Checks {
    private static final int[] NO_VEHICLES = {-1, 2, 3, -2};

    public static void main(String[] args) {
        vehiclesZeroAndOne();
        minutesOfATrip();
        fromOneUpToAnother();
        minuteInCommon();
        inCommonWithAny();
        twentyEach();
        noneAgainstNone();
        withoutACard();
        withTwoOrMore();
        withoutATrip();
        unknownCountsForNothing();
        theOtherVehicleCountsForNothing();
        upToTheLastMinute();
        againstWhenAllIsFull();
        againstAfterPut();
        againstForOthers();
        end();
    }

    private static void dueAgainst(String name, WheelHours x, int vehicle, int... want) {
        for (int what = 0; what < 3; what++) due(name + ", against what " + what, x.against(vehicle, what), want[what]);
    }

    private static WheelHours withTrips(int vehicle, int... minutes) {
        WheelHours x = new WheelHours();
        for (int i = 0; i < minutes.length; i += 2) due("trip", x.trip(vehicle, minutes[i], minutes[i + 1]), true);
        return x;
    }

    /** A CARD drives a VEHICLE in these MINUTES and works ahead of them. */
    private static void drives(WheelHours x, int card, int vehicle, int from, int to) {
        int now = x.count(card, 1);
        if (from > now) due("work", x.act(card, WORK, from - now, 0) != NONE, true);
        due("drive", x.act(card, DRIVE, to - from, vehicle) != NONE, true);
    }

    /** "VEHICLES 0 and 1" tell TRIPS "of their own" */
    private static void vehiclesZeroAndOne() {
        WheelHours x = withTrips(0, 10, 20);
        due("the same minutes of the other one", x.trip(1, 10, 20), true);
        for (int vehicle : NO_VEHICLES) due("vehicle " + vehicle, x.trip(vehicle, 30, 40), false);
        for (int vehicle : FAR) due("vehicle " + vehicle, x.trip(vehicle, 30, 40), false);
        due("one each", x.count(NONE, 1), 1);
        due("one each", x.count(NONE, 2), 1);
    }

    /** "MINUTES (0 to 20160)" */
    private static void minutesOfATrip() {
        for (int vehicle = 0; vehicle < 2; vehicle++) {
            WheelHours x = new WheelHours();
            due("ahead of 0", x.trip(vehicle, -1, 1), false);
            due("behind the end", x.trip(vehicle, 20159, 20161), false);
            due("all behind the end", x.trip(vehicle, 20160, 20161), false);
            due("all ahead of 0", x.trip(vehicle, -2, -1), false);
            for (int far : FAR) {
                due("from " + far, x.trip(vehicle, far, 1), false);
                due("from " + far, x.trip(vehicle, far, far + 1), false);
                due("to " + far, x.trip(vehicle, 20159, far), false);
            }
            due("none is there", x.count(NONE, 1 + vehicle), 0);
            due("the first minute", x.trip(vehicle, 0, 1), true);
            due("the last minute", x.trip(vehicle, 20159, 20160), true);
            due("all between", x.trip(vehicle, 1, 20159), true);
            due("all of them", withTrips(vehicle, 0, 20160).against(vehicle, 0), 20160);
        }
    }

    /** "from a MINUTE up to another one" */
    private static void fromOneUpToAnother() {
        WheelHours x = new WheelHours();
        for (int at : new int[] {0, 1, 100, 20159, 20160}) due("no minute at " + at, x.trip(0, at, at), false);
        due("turned round", x.trip(0, 101, 100), false);
        due("turned round", x.trip(0, 20160, 0), false);
        due("one minute", x.trip(0, 100, 101), true);
        due("that one", x.against(0, 0), 1);
    }

    /** "one has a MINUTE in common" */
    private static void minuteInCommon() {
        int[][] common = {{100, 200}, {100, 101}, {199, 200}, {150, 151}, {99, 101}, {199, 201}, {99, 201}, {0, 101}, {199, 20160},
            {0, 20160}, {100, 201}, {99, 200}};
        for (int[] t : common) {
            WheelHours x = withTrips(1, 100, 200);
            due("from " + t[0] + " up to " + t[1], x.trip(1, t[0], t[1]), false);
            due("one stays", x.count(NONE, 2), 1);
            due("its minutes stay", x.against(1, 0), 100);
            due("the other vehicle has none in common", x.trip(0, t[0], t[1]), true);
        }
        int[][] apart = {{99, 100}, {200, 201}, {0, 100}, {200, 20160}, {0, 1}, {20159, 20160}};
        for (int[] t : apart) {
            WheelHours x = withTrips(1, 100, 200);
            due("from " + t[0] + " up to " + t[1], x.trip(1, t[0], t[1]), true);
            due("two", x.count(NONE, 2), 2);
            due("their minutes", x.against(1, 0), 100 + t[1] - t[0]);
        }
    }

    /** "no two of one with a MINUTE in common", in whatever order they were told */
    private static void inCommonWithAny() {
        int[][] orders = {{0, 1, 2}, {0, 2, 1}, {1, 0, 2}, {1, 2, 0}, {2, 0, 1}, {2, 1, 0}};
        for (int[] order : orders) {
            WheelHours x = new WheelHours();
            for (int i : order) due("trip " + i, x.trip(0, 100 * i, 100 * i + 50), true);
            for (int i = 0; i < 3; i++) {
                due("its first", x.trip(0, 100 * i, 100 * i + 1), false);
                due("its last", x.trip(0, 100 * i + 49, 100 * i + 50), false);
                due("around it", x.trip(0, Math.max(0, 100 * i - 1), 100 * i + 51), false);
            }
            due("over two", x.trip(0, 49, 101), false);
            due("between", x.trip(0, 50, 100), true);
            due("between", x.trip(0, 150, 200), true);
            due("minutes", x.against(0, 0), 250);
        }
    }

    /** "20 each at most", "20 are there" */
    private static void twentyEach() {
        WheelHours x = new WheelHours();
        for (int i = 0; i < 20; i++) {
            int at = i % 2 == 0 ? 1000 - 10 * i : 1000 + 10 * i;
            due("trip " + i, x.trip(0, at, at + 5), true);
            due("trips", x.count(NONE, 1), i + 1);
        }
        due("a twenty-first", x.trip(0, 5000, 5001), false);
        due("a twenty-first", x.trip(0, 0, 1), false);
        due("twenty", x.count(NONE, 1), 20);
        due("their minutes", x.against(0, 0), 100);
        for (int i = 0; i < 20; i++) due("trip " + i + " of the other", x.trip(1, 1000 * i, 1000 * i + 1000), true);
        due("a twenty-first of the other", x.trip(1, 20159, 20160), false);
        due("twenty", x.count(NONE, 2), 20);
    }

    private static void noneAgainstNone() {
        WheelHours x = new WheelHours();
        dueAgainst("nothing at all", x, 0, 0, 0, 0);
        dueAgainst("nothing at all", x, 1, 0, 0, 0);
    }

    /** "MINUTES in which a VEHICLE was on a TRIP and no CARD's DRIVE of it is" */
    private static void withoutACard() {
        WheelHours x = withTrips(0, 100, 200);
        dueAgainst("no card", x, 0, 100, 0, 0);
        drives(x, 0, 0, 100, 200);
        dueAgainst("all of it", x, 0, 0, 0, 0);
        x = withTrips(0, 100, 200);
        drives(x, 3, 0, 101, 199);
        dueAgainst("without its first and last minute", x, 0, 2, 0, 0);
        x = withTrips(0, 100, 200);
        drives(x, 1, 0, 100, 150);
        drives(x, 2, 0, 150, 200);
        dueAgainst("one behind the other", x, 0, 0, 0, 0);
        x = withTrips(0, 100, 200);
        addTo(x, 0, WORK, 200);
        addTo(x, 1, REST, 200);
        addTo(x, 2, FERRY, 200);
        addTo(x, 3, UNKNOWN, 200);
        dueAgainst("no other kind drives", x, 0, 100, 0, 0);
    }

    /** "in which two CARDS or more drive it" */
    private static void withTwoOrMore() {
        WheelHours x = withTrips(1, 0, 1000);
        drives(x, 0, 1, 0, 400);
        due("one", x.against(1, 1), 0);
        drives(x, 1, 1, 400, 500);
        due("none in common", x.against(1, 1), 0);
        drives(x, 2, 1, 399, 402);
        due("its minutes", x.against(1, 1), 3);
        drives(x, 3, 1, 399, 402);
        due("three count once a minute", x.against(1, 1), 3);
        x = new WheelHours();
        for (int card = 0; card < 4; card++) drives(x, card, 0, 10, 20);
        dueAgainst("four count once a minute, on no trip, too", x, 0, 0, 10, 10);
    }

    /** "in which a CARD drives it and it was on no TRIP (once a MINUTE)" */
    private static void withoutATrip() {
        WheelHours x = withTrips(0, 100, 200);
        drives(x, 0, 0, 99, 201);
        dueAgainst("a minute on both sides", x, 0, 0, 0, 2);
        drives(x, 1, 0, 99, 201);
        dueAgainst("once a minute", x, 0, 0, 102, 2);
        x = withTrips(0, 100, 150, 151, 200);
        drives(x, 0, 0, 100, 200);
        dueAgainst("the minute between two", x, 0, 0, 0, 1);
        x = withTrips(0, 100, 150, 150, 200);
        drives(x, 0, 0, 100, 200);
        dueAgainst("none is between two", x, 0, 0, 0, 0);
    }

    /** "UNKNOWN counts for nothing" */
    private static void unknownCountsForNothing() {
        WheelHours x = withTrips(0, 0, 100);
        addTo(x, 0, UNKNOWN, 200);
        addTo(x, 1, UNKNOWN, 200);
        dueAgainst("two unknown", x, 0, 100, 0, 0);
        dueAgainst("two unknown", x, 1, 0, 0, 0);
        x.breaches(0, true);
        dueAgainst("whatever was asked before", x, 0, 100, 0, 0);
    }

    private static void theOtherVehicleCountsForNothing() {
        WheelHours x = withTrips(0, 0, 100);
        drives(x, 0, 1, 0, 100);
        drives(x, 1, 1, 0, 100);
        dueAgainst("the one on a trip", x, 0, 100, 0, 0);
        dueAgainst("the one that is driven", x, 1, 0, 100, 100);
    }

    private static void upToTheLastMinute() {
        WheelHours x = withTrips(0, 0, 1, 20159, 20160);
        dueAgainst("trips alone", x, 0, 2, 0, 0);
        drives(x, 0, 0, 0, 20160);
        dueAgainst("one card", x, 0, 0, 0, 20158);
        drives(x, 1, 0, 20159, 20160);
        dueAgainst("the last minute", x, 0, 0, 1, 20158);
        drives(x, 2, 0, 0, 1);
        dueAgainst("the first minute", x, 0, 0, 2, 20158);
        x = withTrips(0, 50, 20160);
        drives(x, 0, 0, 0, 60);
        dueAgainst("behind the end of every ROW", x, 0, 20100, 0, 50);
    }

    /** Four full ROWS and 20 TRIPS, with as many borders as there can be. */
    private static void againstWhenAllIsFull() {
        WheelHours x = new WheelHours();
        // MINUTE m of each CARD drives if m + card is a multiple of 2
        for (int card = 0; card < 4; card++) {
            for (int i = 0; i < 60; i++) x.act(card, (i + card) % 2 == 0 ? DRIVE : WORK, 1, 0);
        }
        for (int i = 0; i < 20; i++) due("trip", x.trip(0, 3 * i, 3 * i + 1), true);
        // two drive in each of the 60, 20 of them on a TRIP
        dueAgainst("full", x, 0, 0, 60, 40);
        dueAgainst("the other one", x, 1, 0, 0, 0);
        // borders at every multiple of 80: one ACT of 20 MINUTES ahead on CARD 1, 40 on CARD 2, 60 on CARD 3
        x = new WheelHours();
        for (int card = 0; card < 4; card++) {
            for (int i = 0; i < 60; i++) x.act(card, i % 2 == 0 ? DRIVE : WORK, i == 0 && card > 0 ? 20 * card : 80, 1);
        }
        for (int i = 0; i < 20; i++) due("trip", x.trip(1, 240 * i + 5, 240 * i + 165), true);
        int[] want = slowly(60);
        dueAgainst("many borders", x, 1, want[0], want[1], want[2]);
    }

    /** The rows of the test above, minute by minute. */
    private static int[] slowly(int acts) {
        int[] want = new int[3];
        for (int minute = 0; minute < 20160; minute++) {
            int drivers = 0;
            for (int card = 0; card < 4; card++) {
                int first = card > 0 ? 20 * card : 80;
                int act = minute < first ? 0 : 1 + (minute - first) / 80;
                if (act < acts && act % 2 == 0) drivers++;
            }
            boolean onTrip = minute < 4800 && minute % 240 >= 5 && minute % 240 < 165;
            if (onTrip && drivers == 0) want[0]++;
            if (drivers >= 2) want[1]++;
            if (!onTrip && drivers >= 1) want[2]++;
        }
        return want;
    }

    private static void againstAfterPut() {
        WheelHours x = withTrips(0, 0, 100);
        drives(x, 0, 0, 0, 100);
        dueAgainst("driven", x, 0, 0, 0, 0);
        due("put", x.put(0, 0, DRIVE, 1), true);
        dueAgainst("another vehicle", x, 0, 100, 0, 0);
        dueAgainst("another vehicle", x, 1, 0, 0, 100);
        due("put", x.put(0, 0, WORK, 0), true);
        dueAgainst("no drive", x, 0, 100, 0, 0);
        dueAgainst("no drive", x, 1, 0, 0, 0);
    }

    /** "NONE for others" */
    private static void againstForOthers() {
        WheelHours x = withTrips(0, 0, 100);
        for (int vehicle : NO_VEHICLES) due("vehicle " + vehicle, x.against(vehicle, 0), NONE);
        for (int vehicle : FAR) due("vehicle " + vehicle, x.against(vehicle, 0), NONE);
        for (int what : new int[] {-1, 3, 4}) due("what " + what, x.against(0, what), NONE);
        for (int what : FAR) due("what " + what, x.against(1, what), NONE);
    }
}
