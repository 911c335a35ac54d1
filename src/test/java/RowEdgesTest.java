/** The edges of CARDS, ROWS, KINDS and RUNS: their terms, and promises 1, 5, 6, 15 and 16. Each test bears the sentence it holds. */
public final class RowEdgesTest extends Checks {
    private static final int[] NO_CARDS = {-1, 4, 5, -4};
    private static final int[] NO_KINDS = {-1, 5, 6, -5};
    private static final int[] NO_VEHICLES = {-1, 2, 3, -2};

    public static void main(String[] args) {
        emptyRows();
        cardsZeroToThree();
        atMostSixtyActs();
        atMostSoManyMinutes();
        minutesOfAnAct();
        kindsZeroToFour();
        vehicleOfDriveAlone();
        oneBehindTheOther();
        putsKindAndVehicle();
        putRefuses();
        ferryBetweenRests();
        ferryBesideFerry();
        ferryAndUnknown();
        ferryWhenRowGoesOn();
        runsSideBySide();
        lookTells();
        lookForOthers();
        countTells();
        countFull();
        countForOthers();
        end();
    }

    private static WheelHours fullCard(int card, int kind, int minutes) {
        WheelHours x = new WheelHours();
        for (int i = 0; i < 60; i++) due("act " + i, x.act(card, kind, minutes, i % 2), i);
        return x;
    }

    private static void dueRuns(String name, WheelHours x, int runs, int longest) {
        due(name + ", runs", x.count(0, 3), runs);
        due(name + ", longest", x.count(0, 4), longest);
    }

    /** "Empty ROWS" */
    private static void emptyRows() {
        WheelHours x = new WheelHours();
        for (int card = 0; card < 4; card++) {
            for (int what = 0; what < 5; what++) due("count", x.count(card, what), 0);
            for (int what = 0; what < 4; what++) due("look", x.look(card, 0, what), NONE);
            due("put", x.put(card, 0, WORK, 0), false);
        }
    }

    /** "CARDS 0 to 3", each with a ROW of its own */
    private static void cardsZeroToThree() {
        WheelHours x = new WheelHours();
        for (int card = 0; card < 4; card++) due("act", x.act(card, WORK, 10 + card, 0), 0);
        for (int card = 0; card < 4; card++) {
            due("minutes", x.look(card, 0, 1), 10 + card);
            due("put", x.put(card, 0, card == 2 ? REST : WORK, 0), true);
        }
        for (int card = 0; card < 4; card++) due("kind", x.look(card, 0, 0), card == 2 ? REST : WORK);
        for (int card : NO_CARDS) dueNoCard(x, card);
        for (int card : FAR) dueNoCard(x, card);
    }

    private static void dueNoCard(WheelHours x, int card) {
        due("act of " + card, x.act(card, WORK, 1, 0), NONE);
        due("put of " + card, x.put(card, 0, WORK, 0), false);
        due("look of " + card, x.look(card, 0, 0), NONE);
        if (card != NONE) due("count of " + card, x.count(card, 0), NONE);
        for (int i = 0; i < 4; i++) due("nothing came", x.count(i, 0), 1);
    }

    /** "a ROW of at most 60 ACTS", "it has 60" */
    private static void atMostSixtyActs() {
        for (int card = 0; card < 4; card++) {
            WheelHours x = fullCard(card, DRIVE, 1);
            for (int kind = 0; kind < 5; kind++) due("a sixty-first", x.act(card, kind, 1, 0), NONE);
            due("sixty", x.count(card, 0), 60);
            due("sixty minutes", x.count(card, 1), 60);
            due("the last one", x.look(card, 59, 2), 59);
            due("none behind it", x.look(card, 60, 0), NONE);
            due("put of the last one", x.put(card, 59, REST, 0), true);
            due("put behind it", x.put(card, 60, REST, 0), false);
            due("another card", x.act((card + 1) % 4, WORK, 1, 0), 0);
        }
    }

    /** "20160 MINUTES in all at most", "too many MINUTES" */
    private static void atMostSoManyMinutes() {
        WheelHours x = row("", WORK, 20160);
        due("full by one", x.act(0, WORK, 1, 0), NONE);
        x = row("", WORK, 1, WORK, 20159);
        due("full by two", x.count(0, 1), 20160);
        due("full by two", x.act(0, WORK, 1, 0), NONE);
        x = row("", WORK, 20100);
        due("one too many", x.act(0, WORK, 61, 0), NONE);
        due("far too many", x.act(0, WORK, 20160, 0), NONE);
        due("it stays", x.count(0, 1), 20100);
        due("as many as there is room for", x.act(0, WORK, 60, 0), 1);
        due("full", x.act(0, WORK, 1, 0), NONE);
        due("full", x.count(0, 1), 20160);
        x = fullCard(0, REST, 336);
        due("both are full", x.count(0, 1), 20160);
        due("both are full", x.act(0, REST, 1, 0), NONE);
        due("another card has its own", x.act(1, WORK, 20160, 0), 0);
    }

    /** "minutes (1 to 20160)" */
    private static void minutesOfAnAct() {
        int[] none = {0, -1, 20161, -20160};
        for (int kind = 0; kind < 5; kind++) {
            WheelHours x = new WheelHours();
            for (int minutes : none) due("minutes " + minutes, x.act(0, kind, minutes, 0), NONE);
            for (int minutes : FAR) due("minutes " + minutes, x.act(0, kind, minutes, 0), NONE);
            due("nothing came", x.count(0, 0), 0);
            due("one", x.act(0, kind, 1, 0), 0);
            for (int minutes : FAR) due("behind one, minutes " + minutes, x.act(0, kind, minutes, 0), NONE);
            due("the most", x.act(1, kind, 20160, 0), 0);
        }
    }

    /** "KINDS: 0 DRIVE (a VEHICLE, 0 or 1), 1 WORK, 2 REST, 3 FERRY, 4 UNKNOWN" */
    private static void kindsZeroToFour() {
        WheelHours x = new WheelHours();
        for (int kind = 0; kind < 5; kind++) due("kind", x.act(0, kind, 1, 0), kind);
        for (int kind = 0; kind < 5; kind++) due("kind", x.look(0, kind, 0), kind);
        for (int kind : NO_KINDS) due("kind " + kind, x.act(0, kind, 1, 0), NONE);
        for (int kind : FAR) due("kind " + kind, x.act(0, kind, 1, 0), NONE);
        due("nothing came", x.count(0, 0), 5);
    }

    /** "vehicle of DRIVE; else not looked at" */
    private static void vehicleOfDriveAlone() {
        WheelHours x = new WheelHours();
        due("vehicle 0", x.act(0, DRIVE, 1, 0), 0);
        due("vehicle 1", x.act(0, DRIVE, 1, 1), 1);
        for (int vehicle : NO_VEHICLES) due("vehicle " + vehicle, x.act(0, DRIVE, 1, vehicle), NONE);
        for (int vehicle : FAR) due("vehicle " + vehicle, x.act(0, DRIVE, 1, vehicle), NONE);
        due("two", x.count(0, 0), 2);
        int acts = 2;
        for (int kind = 1; kind < 5; kind++) {
            for (int vehicle : NO_VEHICLES) due("not looked at", x.act(0, kind, 1, vehicle), acts++);
            due("none is told", x.look(0, acts - 1, 3), NONE);
        }
        for (int vehicle : FAR) due("not looked at", x.act(0, REST, 1, vehicle), acts++);
    }

    /** "one behind the other from MINUTE 0 on": "its number" */
    private static void oneBehindTheOther() {
        WheelHours x = new WheelHours();
        int[] minutes = {1, 20000, 1, 157, 1};
        int begins = 0;
        for (int i = 0; i < 5; i++) {
            due("its number", x.act(3, i % 5, minutes[i], 0), i);
            due("a refused one takes no number", x.act(3, 9, 1, 0), NONE);
            due("begins", x.look(3, i, 2), begins);
            begins += minutes[i];
        }
        due("in all", x.count(3, 1), 20160);
    }

    /** "ACT i of a CARD is put right: its KIND (and VEHICLE): true" */
    private static void putsKindAndVehicle() {
        WheelHours x = fullCard(0, WORK, 336);
        for (int i = 0; i < 60; i += 59) {
            for (int kind = 0; kind < 5; kind++) {
                for (int vehicle = 0; vehicle < 2; vehicle++) {
                    due("put", x.put(0, i, kind, vehicle), true);
                    due("kind", x.look(0, i, 0), kind);
                    due("vehicle", x.look(0, i, 3), kind == DRIVE ? vehicle : NONE);
                    due("minutes stay", x.look(0, i, 1), 336);
                    due("its beginning stays", x.look(0, i, 2), 336 * i);
                }
            }
            due("not looked at", x.put(0, i, WORK, 99), true);
        }
        due("the others stay", x.look(0, 1, 0), WORK);
        due("the same again", x.put(0, 0, WORK, 0), true);
        due("acts stay", x.count(0, 0), 60);
        due("minutes stay", x.count(0, 1), 20160);
        due("a vehicle is put right", x.put(0, 5, DRIVE, 0) && x.put(0, 5, DRIVE, 1), true);
        due("it is", x.look(0, 5, 3), 1);
        due("only one drives", x.count(0, 2), 336);
    }

    /** "false: no such ones" */
    private static void putRefuses() {
        WheelHours x = row("", DRIVE, 7, WORK, 8);
        for (int i : new int[] {-1, 2, 3, 59, 60, 61}) due("act " + i, x.put(0, i, REST, 0), false);
        for (int i : FAR) due("act " + i, x.put(0, i, REST, 0), false);
        for (int kind : NO_KINDS) due("kind " + kind, x.put(0, 0, kind, 0), false);
        for (int kind : FAR) due("kind " + kind, x.put(0, 0, kind, 0), false);
        for (int vehicle : NO_VEHICLES) due("vehicle " + vehicle, x.put(0, 1, DRIVE, vehicle), false);
        for (int vehicle : FAR) due("vehicle " + vehicle, x.put(0, 1, DRIVE, vehicle), false);
        due("an empty row", x.put(1, 0, REST, 0), false);
        int[][] want = {{0, 7, 0, 0}, {1, 8, 7, NONE}};
        for (int i = 0; i < 2; i++) {
            for (int what = 0; what < 4; what++) due("stays", x.look(0, i, what), want[i][what]);
        }
    }

    /** "A FERRY counts as REST if REST stands right ahead of it and right behind it ..., else as WORK" */
    private static void ferryBetweenRests() {
        dueRuns("between", row("", REST, 20, FERRY, 9, REST, 20), 1, 49);
        dueRuns("alone", row("", FERRY, 9), 0, 0);
        dueRuns("nothing ahead", row("", FERRY, 9, REST, 20), 1, 20);
        dueRuns("nothing behind", row("", REST, 20, FERRY, 9), 1, 20);
        dueRuns("work ahead", row("", WORK, 1, FERRY, 9, REST, 20), 1, 20);
        dueRuns("work behind", row("", REST, 20, FERRY, 9, WORK, 1), 1, 20);
        dueRuns("drive ahead", row("", DRIVE, 1, FERRY, 9, REST, 20), 1, 20);
        dueRuns("drive behind", row("", REST, 20, FERRY, 9, DRIVE, 1), 1, 20);
        dueRuns("not right ahead", row("", REST, 20, WORK, 1, FERRY, 9, REST, 21), 2, 21);
        dueRuns("not right behind", row("", REST, 20, FERRY, 9, WORK, 1, REST, 21), 2, 21);
        dueRuns("each between two", row("", REST, 1, FERRY, 2, REST, 4, FERRY, 8, REST, 16), 1, 31);
        due("as WORK it is no drive", row("", FERRY, 400).count(0, 2), 0);
        due("as WORK it breaks no drive", row("", DRIVE, 270, FERRY, 400).may(0, false), 0);
        due("as REST it does", row("", DRIVE, 270, REST, 1, FERRY, 43, REST, 1).may(0, false), 270);
        due("a minute less does not", row("", DRIVE, 270, REST, 1, FERRY, 42, REST, 1).may(0, false), 0);
    }

    /** "but no FERRY" */
    private static void ferryBesideFerry() {
        dueRuns("two", row("", REST, 20, FERRY, 9, FERRY, 9, REST, 21), 2, 21);
        dueRuns("three", row("", REST, 20, FERRY, 9, FERRY, 9, FERRY, 9, REST, 21), 2, 21);
        dueRuns("one that is REST beside none", row("", REST, 20, FERRY, 9, REST, 5, FERRY, 9, FERRY, 9, REST, 3), 2, 34);
    }

    /** "an UNKNOWN read as REST, too"; "UNKNOWN: as REST, or as DRIVE" */
    private static void ferryAndUnknown() {
        dueRuns("ahead", row("", UNKNOWN, 20, FERRY, 9, REST, 20), 1, 49);
        dueRuns("behind", row("", REST, 20, FERRY, 9, UNKNOWN, 20), 1, 49);
        dueRuns("both", row("", UNKNOWN, 20, FERRY, 9, UNKNOWN, 20), 1, 49);
        dueRuns("one side alone", row("", UNKNOWN, 20, FERRY, 9, WORK, 20), 1, 20);
        WheelHours x = row("", DRIVE, 200, REST, 30, FERRY, 10, UNKNOWN, 5, WORK, 1);
        due("as REST a break", x.may(0, false), 270);
        due("as DRIVE the FERRY is WORK", x.may(0, true), 65);
        x = row("", DRIVE, 200, UNKNOWN, 5, FERRY, 10, REST, 30, WORK, 1);
        due("as REST a break", x.may(0, false), 270);
        due("as DRIVE the FERRY is WORK", x.may(0, true), 65);
    }

    /** A FERRY at the ROW's end has nothing behind it yet. */
    private static void ferryWhenRowGoesOn() {
        WheelHours x = row("", REST, 20, FERRY, 9);
        dueRuns("at the end", x, 1, 20);
        addTo(x, 0, REST, 1);
        dueRuns("REST came", x, 1, 30);
        due("put", x.put(0, 2, WORK, 0), true);
        dueRuns("put right to WORK", x, 1, 20);
        due("put", x.put(0, 2, UNKNOWN, 0), true);
        dueRuns("put right to UNKNOWN", x, 1, 30);
        due("put", x.put(0, 0, FERRY, 0), true);
        dueRuns("a FERRY ahead", x, 1, 1);
    }

    /** "A RUN is all REST that stands side by side" */
    private static void runsSideBySide() {
        dueRuns("no REST", row("", DRIVE, 5, WORK, 5), 0, 0);
        dueRuns("one MINUTE", row("", WORK, 5, REST, 1, WORK, 5), 1, 1);
        dueRuns("side by side", row("", REST, 1, REST, 2, UNKNOWN, 4, REST, 8), 1, 15);
        dueRuns("apart by a MINUTE", row("", REST, 1, WORK, 1, REST, 2), 2, 2);
        dueRuns("the first is the longest", row("", REST, 9, DRIVE, 1, REST, 8), 2, 9);
        dueRuns("the last is the longest", row("", REST, 8, DRIVE, 1, REST, 9), 2, 9);
        dueRuns("all of the ROW", row("", REST, 20160), 1, 20160);
        dueRuns("all of sixty", fullCard(0, REST, 336), 1, 20160);
        due("45 of 44 and 1", row("", DRIVE, 270, REST, 44, REST, 1).may(0, false), 270);
        due("44 and 1 apart", row("", DRIVE, 270, REST, 44, WORK, 1, REST, 1).may(0, false), 0);
    }

    /** "what 0 KIND, 1 MINUTES, 2 at which MINUTE it begins, 3 the VEHICLE (NONE)" */
    private static void lookTells() {
        WheelHours x = new WheelHours();
        int[][] acts = {{DRIVE, 20155, 1}, {WORK, 1, 0}, {REST, 1, 1}, {FERRY, 1, 0}, {UNKNOWN, 1, 1}, {DRIVE, 1, 0}};
        int begins = 0;
        for (int i = 0; i < acts.length; i++) {
            due("act", x.act(2, acts[i][0], acts[i][1], acts[i][2]), i);
            due("kind", x.look(2, i, 0), acts[i][0]);
            due("minutes", x.look(2, i, 1), acts[i][1]);
            due("begins", x.look(2, i, 2), begins);
            due("vehicle", x.look(2, i, 3), acts[i][0] == DRIVE ? acts[i][2] : NONE);
            begins += acts[i][1];
        }
    }

    /** look: "NONE for others" */
    private static void lookForOthers() {
        WheelHours x = row("", DRIVE, 7, WORK, 8);
        for (int what : new int[] {-1, 4, 5}) due("what " + what, x.look(0, 0, what), NONE);
        for (int what : FAR) due("what " + what, x.look(0, 0, what), NONE);
        for (int i : new int[] {-1, 2, 59, 60}) due("act " + i, x.look(0, i, 1), NONE);
        for (int i : FAR) due("act " + i, x.look(0, i, 1), NONE);
        for (int card : NO_CARDS) due("card " + card, x.look(card, 0, 1), NONE);
        for (int card : FAR) due("card " + card, x.look(card, 0, 1), NONE);
        due("an empty row", x.look(1, 0, 1), NONE);
    }

    /** "what 0 ACTS, 1 MINUTES in all, 2 of DRIVE, 3 RUNS of REST, 4 the longest (2 to 4 with UNKNOWN read as REST)" */
    private static void countTells() {
        WheelHours x = row("", UNKNOWN, 10, DRIVE, 20, UNKNOWN, 30, REST, 5, WORK, 1, DRIVE, 2, FERRY, 3);
        int[] want = {7, 71, 22, 2, 35};
        for (int what = 0; what < 5; what++) due("count " + what, x.count(0, what), want[what]);
        x.act(0, DRIVE, 4, 1);
        due("of both vehicles", x.count(0, 2), 26);
        x.breaches(0, true);
        due("UNKNOWN is REST whatever was asked before", x.count(0, 2), 26);
        due("UNKNOWN is REST whatever was asked before", x.count(0, 3), 2);
        due("all unknown, drive", row("", UNKNOWN, 20160).count(0, 2), 0);
        dueRuns("all unknown", row("", UNKNOWN, 20160), 1, 20160);
    }

    /** The counts of full ROWS. */
    private static void countFull() {
        WheelHours x = new WheelHours();
        for (int i = 0; i < 60; i++) due("act", x.act(0, i % 2 == 0 ? REST : DRIVE, i < 59 ? 336 : 335, 0), i);
        int[] want = {60, 20159, 30 * 336 - 1, 30, 336};
        for (int what = 0; what < 5; what++) due("count " + what, x.count(0, what), want[what]);
        x = fullCard(1, DRIVE, 336);
        int[] all = {60, 20160, 20160, 0, 0};
        for (int what = 0; what < 5; what++) due("count " + what, x.count(1, what), all[what]);
    }

    /** "card NONE: what 0 bytes of the tape, 1, 2 TRIPS of VEHICLE 0, 1. NONE for others." */
    private static void countForOthers() {
        WheelHours x = row("", DRIVE, 7);
        due("bytes", x.count(NONE, 0), 0);
        x.feed(0, 0, 0, 0, 0);
        due("bytes", x.count(NONE, 0), 20);
        x.trip(0, 1, 2);
        x.trip(0, 3, 4);
        x.trip(1, 1, 2);
        due("trips of 0", x.count(NONE, 1), 2);
        due("trips of 1", x.count(NONE, 2), 1);
        for (int what : new int[] {-1, 3, 4, 5}) due("what " + what, x.count(NONE, what), NONE);
        for (int what : FAR) due("what " + what, x.count(NONE, what), NONE);
        for (int what : new int[] {-1, 5, 6}) due("what " + what, x.count(0, what), NONE);
        for (int what : FAR) due("what " + what, x.count(0, what), NONE);
        for (int what = 0; what < 5; what++) {
            due("card 4", x.count(4, what), NONE);
            due("card -2", x.count(-2, what), NONE);
            for (int card : FAR) due("card " + card, x.count(card, what), NONE);
        }
    }
}
