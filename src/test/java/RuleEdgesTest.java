/** The edges of RULES 1 to 4 and of their BREACHES: promises 8 and 9. Each test bears the sentence it holds. */
public final class RuleEdgesTest extends Checks {
    // Each of these lets one RULE alone speak, in ROWS of up to 1440 MINUTES.
    private static final String ONE = "d9999;r9999;q9999;w9999";
    private static final String TWO = "c9999;r600;q600;w9999";
    private static final String THREE = "c9999;d9999;w9999";
    private static final String FOUR = "c9999;d9999";

    public static void main(String[] args) {
        noBreachAtFirst();
        greaterThanC();
        countedOn();
        allOverAreOneBreach();
        breakOfBOrMore();
        splitOfSAndT();
        sinceTheCountWasZero();
        thatOneItselfDoesNotCount();
        orTheBeginning();
        partsLongerThanABreak();
        aboveD();
        aboveE();
        firstOverOfADay();
        restLastedR();
        restLastedQ();
        noSuchRestEnds();
        lateOfLaterDays();
        aboveW();
        weeksBeginAndEnd();
        firstOverOfAWeek();
        byMinuteThenByRules();
        byMinuteOverDays();
        allNumbersLeast();
        allNumbersMost();
        asManyAsThereCanBe();
        readings();
        breachAloneAndAgain();
        forOthers();
        end();
    }

    private static void noBreachAtFirst() {
        for (int card = 0; card < 4; card++) {
            due("an empty row", new WheelHours().breaches(card, false), 0);
            due("an empty row", new WheelHours().breaches(card, true), 0);
            due("an empty row", new WheelHours().breach(card, false, 0, 0), NONE);
        }
    }

    /** "MINUTES of DRIVE that make the count greater than c are OVER" */
    private static void greaterThanC() {
        dueBreaches("at c", row(ONE, DRIVE, 270), false);
        dueBreaches("one more", row(ONE, DRIVE, 271), false, 270, 1, 1);
        dueBreaches("at c of two", row(ONE, DRIVE, 269, DRIVE, 1), false);
        dueBreaches("one more of two", row(ONE, DRIVE, 270, DRIVE, 1), false, 270, 1, 1);
        dueBreaches("c of 1", row(ONE + ";c1", DRIVE, 1), false);
        dueBreaches("one more than 1", row(ONE + ";c1", DRIVE, 2), false, 1, 1, 1);
    }

    /** "MINUTES of DRIVE are counted on from 0": no WORK and no short RUN makes the count 0 */
    private static void countedOn() {
        dueBreaches("over work", row(ONE, DRIVE, 270, WORK, 600, DRIVE, 1), false, 870, 1, 1);
        dueBreaches("over a ferry", row(ONE, DRIVE, 270, FERRY, 600, DRIVE, 1), false, 870, 1, 1);
        dueBreaches("over short runs", row(ONE, DRIVE, 270, REST, 14, WORK, 1, REST, 14, WORK, 1, REST, 44, DRIVE, 1), false, 344, 1, 1);
        WheelHours x = row(ONE, DRIVE, 200);
        x.act(0, DRIVE, 71, 1);
        dueBreaches("both vehicles", x, false, 270, 1, 1);
    }

    /** "All OVER since the count was 0 last are one BREACH, told at the first of them." */
    private static void allOverAreOneBreach() {
        dueBreaches("over work", row(ONE, DRIVE, 280, WORK, 5, DRIVE, 5), false, 270, 1, 15);
        dueBreaches("over a run that is none", row(ONE, DRIVE, 280, REST, 44, DRIVE, 5), false, 270, 1, 15);
        dueBreaches("the first is behind work", row(ONE, DRIVE, 270, WORK, 30, DRIVE, 5), false, 300, 1, 5);
        dueBreaches("two, a zero between", row(ONE, DRIVE, 280, REST, 45, DRIVE, 281), false, 270, 1, 10, 595, 1, 11);
        dueBreaches("one that ends with the row's run", row(ONE, DRIVE, 280, REST, 45), false, 270, 1, 10);
        dueBreaches("none between two", row(ONE, DRIVE, 271, REST, 45, DRIVE, 270, REST, 45, DRIVE, 271), false, 270, 1, 1, 901, 1, 1);
        dueBreaches("two runs with no drive between", row(ONE, DRIVE, 271, REST, 45, WORK, 1, REST, 45, DRIVE, 271), false, 270, 1, 1, 632, 1, 1);
    }

    /** "0 again at the end of a RUN that is a BREAK (b MINUTES or more)" */
    private static void breakOfBOrMore() {
        dueBreaches("less than b", row(ONE, DRIVE, 270, REST, 44, DRIVE, 1), false, 314, 1, 1);
        dueBreaches("b", row(ONE, DRIVE, 270, REST, 45, DRIVE, 270), false);
        dueBreaches("more than b", row(ONE, DRIVE, 270, REST, 46, DRIVE, 271), false, 586, 1, 1);
        dueBreaches("b of 1", row(ONE + ";b1", DRIVE, 270, REST, 1, DRIVE, 270), false);
        dueBreaches("b of one less", row(ONE + ";b44", DRIVE, 270, REST, 44, DRIVE, 270), false);
        dueBreaches("b of two acts", row(ONE, DRIVE, 270, REST, 22, REST, 23, DRIVE, 270), false);
    }

    /** "or of one of t or more if a RUN of s or more came" */
    private static void splitOfSAndT() {
        dueBreaches("s and t", row(ONE, DRIVE, 100, REST, 15, DRIVE, 170, REST, 30, DRIVE, 270), false);
        dueBreaches("less than s", row(ONE, DRIVE, 100, REST, 14, DRIVE, 170, REST, 30, DRIVE, 1), false, 314, 1, 1);
        dueBreaches("less than t", row(ONE, DRIVE, 100, REST, 15, DRIVE, 170, REST, 29, DRIVE, 1), false, 314, 1, 1);
        dueBreaches("t and s", row(ONE, DRIVE, 100, REST, 30, DRIVE, 170, REST, 15, DRIVE, 1), false, 315, 1, 1);
        dueBreaches("more than both", row(ONE, DRIVE, 100, REST, 44, DRIVE, 170, REST, 44, DRIVE, 270), false);
        dueBreaches("s, shorter ones, t", row(ONE, REST, 1, DRIVE, 9, REST, 15, DRIVE, 9, REST, 1, DRIVE, 252, REST, 30, DRIVE, 270), false);
        dueBreaches("s and t of 1", row(ONE + ";s1;t1", DRIVE, 135, REST, 1, DRIVE, 135, REST, 1, DRIVE, 270), false);
        dueBreaches("no MINUTE of DRIVE between", row(ONE, DRIVE, 270, REST, 15, WORK, 1, REST, 30, DRIVE, 270), false);
    }

    /** "came since the count was 0 last" */
    private static void sinceTheCountWasZero() {
        dueBreaches("ahead of a break", row(ONE, DRIVE, 100, REST, 15, DRIVE, 100, REST, 45, DRIVE, 270, REST, 30, DRIVE, 1), false, 560, 1, 1);
        dueBreaches("ahead of a split one's end", row(ONE, DRIVE, 99, REST, 15, DRIVE, 1, REST, 30, DRIVE, 270, REST, 30, DRIVE, 1), false,
                445, 1, 1);
        dueBreaches("behind a break", row(ONE, DRIVE, 100, REST, 45, DRIVE, 100, REST, 15, DRIVE, 170, REST, 30, DRIVE, 270), false);
        dueBreaches("right behind a zero, ahead of all DRIVE", row(ONE, DRIVE, 9, REST, 45, WORK, 1, REST, 15, DRIVE, 270, REST, 30, DRIVE, 270),
                false);
    }

    /** "that one itself does not count" */
    private static void thatOneItselfDoesNotCount() {
        dueBreaches("s and t in one", row(ONE, DRIVE, 270, REST, 30, DRIVE, 1), false, 300, 1, 1);
        dueBreaches("nearly a break", row(ONE, DRIVE, 270, REST, 44, DRIVE, 1), false, 314, 1, 1);
        dueBreaches("a break is no first part", row(ONE, DRIVE, 1, REST, 45, DRIVE, 270, REST, 30, DRIVE, 1), false, 346, 1, 1);
        dueBreaches("a second part is no first one", row(ONE, DRIVE, 1, REST, 15, DRIVE, 1, REST, 30, DRIVE, 270, REST, 30, DRIVE, 1, REST, 30,
                DRIVE, 270), false, 347, 1, 1);
    }

    /** "(or the beginning ...)" */
    private static void orTheBeginning() {
        dueBreaches("a first part at MINUTE 0", row(ONE, REST, 15, DRIVE, 270, REST, 30, DRIVE, 270), false);
        dueBreaches("too short", row(ONE, REST, 14, DRIVE, 270, REST, 30, DRIVE, 270), false, 314, 1, 270);
        dueBreaches("a break at MINUTE 0", row(ONE, REST, 45, DRIVE, 270, REST, 30, DRIVE, 270), false, 345, 1, 270);
    }

    private static void partsLongerThanABreak() {
        dueBreaches("s above b", row(ONE + ";s100", DRIVE, 100, REST, 44, DRIVE, 170, REST, 44, DRIVE, 1), false, 358, 1, 1);
        dueBreaches("t above b", row(ONE + ";t100", DRIVE, 100, REST, 15, DRIVE, 170, REST, 44, DRIVE, 1), false, 329, 1, 1);
        dueBreaches("t above b, a break", row(ONE + ";t100", DRIVE, 100, REST, 15, DRIVE, 170, REST, 45, DRIVE, 270), false);
        dueBreaches("s above t", row(ONE + ";s40;t10", DRIVE, 100, REST, 40, DRIVE, 170, REST, 10, DRIVE, 270), false);
        dueBreaches("s above t, less than s", row(ONE + ";s40;t10", DRIVE, 100, REST, 39, DRIVE, 170, REST, 10, DRIVE, 1), false, 319, 1, 1);
    }

    /** "MINUTES of DRIVE in a DAY above d ... are OVER" */
    private static void aboveD() {
        dueBreaches("at d", row(TWO + ";x0", DRIVE, 540), false);
        dueBreaches("one more", row(TWO + ";x0", DRIVE, 541), false, 540, 2, 1);
        dueBreaches("at d of two", row(TWO + ";x0", DRIVE, 500, WORK, 100, DRIVE, 40), false);
        dueBreaches("one more of two", row(TWO + ";x0", DRIVE, 500, WORK, 100, DRIVE, 41), false, 640, 2, 1);
        dueBreaches("a run that ends no day", row(TWO + ";x0", DRIVE, 500, REST, 599, DRIVE, 41), false, 1139, 2, 1);
        dueBreaches("one that does", row(TWO + ";x0", DRIVE, 500, REST, 600, DRIVE, 540), false);
        dueBreaches("d of 1", row(TWO + ";x0;d1", DRIVE, 1), false);
        dueBreaches("one more than 1", row(TWO + ";x0;d1", DRIVE, 2), false, 1, 2, 1);
    }

    /** "(e in an EXTENDED one)" */
    private static void aboveE() {
        dueBreaches("at e", row(TWO, DRIVE, 600), false);
        dueBreaches("one more", row(TWO, DRIVE, 601), false, 600, 2, 1);
        dueBreaches("e below d", row(TWO + ";e1", DRIVE, 541), false, 540, 2, 1);
        dueBreaches("e is d", row(TWO + ";e540", DRIVE, 541), false, 540, 2, 1);
        dueBreaches("e of one more", row(TWO + ";e541", DRIVE, 542), false, 541, 2, 1);
    }

    /** "one BREACH, told at the first of them" */
    private static void firstOverOfADay() {
        dueBreaches("behind work", row(TWO + ";x0", DRIVE, 540, WORK, 10, DRIVE, 5, WORK, 10, DRIVE, 5), false, 550, 2, 10);
        dueBreaches("each day its own", row(TWO + ";x0", DRIVE, 541, REST, 600, DRIVE, 540, REST, 600, DRIVE, 543), false,
                540, 2, 1, 2821, 2, 3);
    }

    /** "by 1440 MINUTES behind its beginning the REST that ends the DAY has lasted r MINUTES" */
    private static void restLastedR() {
        dueBreaches("just in time", row(THREE + ";y0", WORK, 780, REST, 660), false);
        dueBreaches("a minute late", row(THREE + ";y0", WORK, 781, REST, 660), false, 1440, 3, 1);
        dueBreaches("longer than r is not later", row(THREE + ";y0", WORK, 780, REST, 5000, WORK, 1), false);
        dueBreaches("longer than r, a minute late", row(THREE + ";y0", WORK, 781, REST, 5000, WORK, 1), false, 1440, 3, 1);
        dueBreaches("r of 1440 from MINUTE 0", row(THREE + ";r1440;y0", REST, 1440, WORK, 1), false);
        dueBreaches("r of 1441 from MINUTE 0", row(THREE + ";r1441;y0", REST, 1441, WORK, 1), false, 1440, 3, 1);
        dueBreaches("r of 1", row(THREE + ";r1;q1", WORK, 1439, REST, 1, WORK, 1439, REST, 1), false);
        dueBreaches("r of 1, late", row(THREE + ";r1;q1", WORK, 1440, REST, 1, WORK, 1441, REST, 1), false, 1440, 3, 1, 2881, 3, 2);
    }

    /** "(q if it is a REDUCED one)" */
    private static void restLastedQ() {
        dueBreaches("just in time", row(THREE, WORK, 900, REST, 540, WORK, 1440), false);
        dueBreaches("a minute late", row(THREE, WORK, 901, REST, 540, WORK, 1440), false, 1440, 3, 1);
        dueBreaches("longer than q is not later", row(THREE, WORK, 900, REST, 659, WORK, 1440), false);
        dueBreaches("at the row's end", row(THREE, WORK, 901, REST, 600), false, 1440, 3, 1);
        dueBreaches("q of 1", row(THREE + ";q1", WORK, 1439, REST, 1, WORK, 1440), false);
    }

    /** "A DAY that no such REST ends: what the ROW has behind that MINUTE" */
    private static void noSuchRestEnds() {
        dueBreaches("the ROW ends there", row(THREE, WORK, 1440), false);
        dueBreaches("a minute behind it", row(THREE, WORK, 1441), false, 1440, 3, 1);
        dueBreaches("with a run too short", row(THREE + ";y0", WORK, 1000, REST, 659), false, 1440, 3, 219);
        dueBreaches("all of the row", row(THREE, WORK, 20160), false, 1440, 3, 18720);
        dueBreaches("a short row", row(THREE, WORK, 1), false);
    }

    /** "told at the MINUTE of beginning and 1440" */
    private static void lateOfLaterDays() {
        dueBreaches("the second", row(THREE, WORK, 10, REST, 660, WORK, 781, REST, 660), false, 2110, 3, 1);
        dueBreaches("the second, in time", row(THREE, WORK, 10, REST, 660, WORK, 780, REST, 660), false);
        dueBreaches("a run longer than r puts it off", row(THREE, WORK, 10, REST, 700, WORK, 1441), false, 2150, 3, 1);
        dueBreaches("rest from MINUTE 0 ends a day", row(THREE, REST, 660, WORK, 1441), false, 2100, 3, 1);
        dueBreaches("both", row(THREE + ";y0", WORK, 1000, REST, 660, WORK, 1000, REST, 660), false, 1440, 3, 220, 3100, 3, 220);
    }

    /** "MINUTES of DRIVE in a WEEK above w are OVER" */
    private static void aboveW() {
        dueBreaches("at w", row(FOUR + ";w100", DRIVE, 100), false);
        dueBreaches("one more", row(FOUR + ";w100", DRIVE, 101), false, 100, 4, 1);
        dueBreaches("w of 1", row(FOUR + ";w1", DRIVE, 1), false);
        dueBreaches("one more than 1", row(FOUR + ";w1", DRIVE, 2), false, 1, 4, 1);
        dueBreaches("at first", row("c9999;d9999;r1;q1", DRIVE, 1400, REST, 1, DRIVE, 1400, REST, 1, DRIVE, 561), false, 3362, 4, 1);
        dueBreaches("at first, at w", row("c9999;d9999;r1;q1", DRIVE, 1400, REST, 1, DRIVE, 1400, REST, 1, DRIVE, 560), false);
    }

    /** "WEEKS have 10080 MINUTES, from MINUTE 0 on" */
    private static void weeksBeginAndEnd() {
        dueBreaches("the last two of the first", row(FOUR + ";w1", REST, 10078, DRIVE, 2), false, 10079, 4, 1);
        dueBreaches("one of each", row(FOUR + ";w1", REST, 10079, DRIVE, 2), false);
        dueBreaches("the first two of the second", row(FOUR + ";w1", REST, 10080, DRIVE, 2), false, 10081, 4, 1);
        dueBreaches("two of each", row(FOUR + ";w1", REST, 10078, DRIVE, 4), false, 10079, 4, 1, 10081, 4, 1);
        dueBreaches("the last two of the second", row(FOUR + ";w1", REST, 20158, DRIVE, 2), false, 20159, 4, 1);
        dueBreaches("each has its own w", row(FOUR + ";w100", REST, 9980, DRIVE, 200), false);
        dueBreaches("each has its own, one more", row(FOUR + ";w100", REST, 9979, DRIVE, 202), false, 10079, 4, 1, 10180, 4, 1);
    }

    /** "one BREACH, told at the first of them" */
    private static void firstOverOfAWeek() {
        dueBreaches("behind work", row(FOUR + ";w50", DRIVE, 50, WORK, 7, DRIVE, 2, WORK, 9, DRIVE, 3), false, 57, 4, 5);
        dueBreaches("the second week's behind work", row(FOUR + ";w50", DRIVE, 50, REST, 10030, DRIVE, 50, WORK, 7, DRIVE, 2), false, 10137, 4, 2);
    }

    /** "The i-th BREACH, by its MINUTE, of one MINUTE by RULES" */
    private static void byMinuteThenByRules() {
        String long9 = "r9999;q9999;x0;";
        dueBreaches("4, 2, 1, 3", row(long9 + "c100;d90;w80", WORK, 1000, DRIVE, 103, WORK, 400), false,
                1080, 4, 23, 1090, 2, 13, 1100, 1, 3, 1440, 3, 63);
        dueBreaches("3, 1, 2, 4", row(long9 + "c80;d90;w100", WORK, 1400, DRIVE, 103), false,
                1440, 3, 63, 1480, 1, 23, 1490, 2, 13, 1500, 4, 3);
        dueBreaches("1 and 2", row(long9 + "c80;d80", DRIVE, 81), false, 80, 1, 1, 80, 2, 1);
        dueBreaches("1 and 4", row(long9 + "c80;w80", DRIVE, 81), false, 80, 1, 1, 80, 4, 1);
        dueBreaches("2 and 4", row(long9 + "d80;w80", DRIVE, 81), false, 80, 2, 1, 80, 4, 1);
        dueBreaches("1 and 3", row(long9 + "c80", WORK, 1360, DRIVE, 81), false, 1440, 1, 1, 1440, 3, 1);
        dueBreaches("2 and 3", row(long9 + "d80", WORK, 1360, DRIVE, 81), false, 1440, 2, 1, 1440, 3, 1);
        dueBreaches("3 and 4", row(long9 + "w80", WORK, 1360, DRIVE, 81), false, 1440, 3, 1, 1440, 4, 1);
        dueBreaches("all four", row(long9 + "c80;d80;w80", WORK, 1360, DRIVE, 81), false,
                1440, 1, 1, 1440, 2, 1, 1440, 3, 1, 1440, 4, 1);
        // the second DAY's RULES 2 and 3 among RULE 1's two BREACHES
        dueBreaches("over days", row("c80;d80;x0;r60;q60", DRIVE, 81, REST, 60, DRIVE, 82, WORK, 1400), false,
                80, 1, 1, 80, 2, 1, 221, 1, 2, 221, 2, 2, 1581, 3, 42);
    }

    /** RULES of a later DAY stand behind all of an earlier one. */
    private static void byMinuteOverDays() {
        dueBreaches("3, then 1 and 2", row("y0;x0", WORK, 1000, REST, 660, DRIVE, 541), false,
                1440, 3, 220, 1930, 1, 271, 2200, 2, 1);
        dueBreaches("2 and 3, twice", row("c9999;d100;x0;y0", DRIVE, 101, WORK, 1000, REST, 660, DRIVE, 102, WORK, 1000, REST, 660), false,
                100, 2, 1, 1440, 3, 321, 1861, 2, 2, 3201, 3, 322);
    }

    private static void allNumbersLeast() {
        String least = "c1;b1;s1;t1;d1;e1;x0;r1;q1;y0;w1";
        dueBreaches("a minute of drive", row(least, DRIVE, 1, REST, 1), false);
        dueBreaches("two", row(least, DRIVE, 2), false, 1, 1, 1, 1, 2, 1, 1, 4, 1);
        dueBreaches("a rest between", row(least, DRIVE, 1, REST, 1, DRIVE, 1), false, 2, 4, 1);
    }

    private static void allNumbersMost() {
        String most = "c9999;b9999;s9999;t9999;d9999;e9999;x99;r9999;q9999;y99;w9999";
        dueBreaches("as much as may be", row(most, DRIVE, 9999), false, 1440, 3, 8559);
        dueBreaches("one more", row(most, DRIVE, 10000), false, 1440, 3, 8560, 9999, 1, 1, 9999, 2, 1, 9999, 4, 1);
        dueBreaches("the longest break", row(most, DRIVE, 9999, REST, 9999, DRIVE, 162), false, 1440, 3, 18558);
        dueBreaches("nearly", row(most, DRIVE, 9999, REST, 9998, DRIVE, 163), false, 1440, 3, 18720, 19997, 1, 163, 19997, 2, 163);
    }

    /** ROWS that are full of BREACHES. */
    private static void asManyAsThereCanBe() {
        WheelHours x = row("c1;b1;s1;t1;d1;e1;x0;r1;q1;y0;w1");
        for (int i = 0; i < 30; i++) addTo(x, 0, DRIVE, 671, REST, 1);
        int[] want = new int[3 * 62];
        int at = 0;
        for (int i = 0; i < 30; i++) {
            for (int rule = 1; rule <= (i % 15 == 0 ? 3 : 2); rule++) {
                want[at++] = 672 * i + 1;
                want[at++] = rule == 3 ? 4 : rule;
                want[at++] = rule == 3 ? 15 * 671 - 1 : 670;
            }
        }
        dueBreaches("thirty days", x, false, want);
        x = row(THREE + ";r1;q1");
        int[] late = new int[3 * 13];
        for (int i = 0; i < 13; i++) {
            addTo(x, 0, WORK, i < 12 ? 1550 : 1548);
            if (i < 12) addTo(x, 0, REST, 1);
            late[3 * i] = 1551 * i + 1440;
            late[3 * i + 1] = 3;
            late[3 * i + 2] = i < 12 ? 111 : 108;
        }
        dueBreaches("thirteen late ones", x, false, late);
    }

    /** "drive: UNKNOWN is read as DRIVE" */
    private static void readings() {
        WheelHours x = row("r9999;q9999;w330", DRIVE, 270, UNKNOWN, 45, DRIVE, 271);
        dueBreaches("as REST", x, false, 375, 4, 211, 585, 1, 1);
        dueBreaches("as DRIVE", x, true, 270, 1, 316, 330, 4, 256);
    }

    private static void breachAloneAndAgain() {
        WheelHours x = row(ONE, DRIVE, 275);
        due("asked alone", x.breach(0, false, 0, 2), 5);
        due("another card", x.breach(1, false, 0, 2), NONE);
        due("asked again", x.breach(0, false, 0, 2), 5);
        addTo(x, 1, DRIVE, 300);
        due("the other card alone", x.breach(1, true, 0, 2), 30);
        due("the first card alone", x.breach(0, true, 0, 2), 5);
        due("put right", x.put(0, 0, WORK, 0), true);
        due("none any more", x.breach(0, false, 0, 2), NONE);
        due("none any more", x.breaches(0, false), 0);
        due("the law is told anew", tell(x, "c300"), 0);
        due("none any more", x.breaches(1, false), 0);
    }

    /** "NONE: no such one", "NONE for others" */
    private static void forOthers() {
        WheelHours x = row(ONE, DRIVE, 275);
        boolean[] readings = {false, true};
        for (boolean drive : readings) {
            for (int card : new int[] {-1, 4}) due("card " + card, x.breaches(card, drive), NONE);
            for (int card : FAR) due("card " + card, x.breaches(card, drive), NONE);
            for (int card : new int[] {-1, 4}) due("card " + card, x.breach(card, drive, 0, 0), NONE);
            for (int card : FAR) due("card " + card, x.breach(card, drive, 0, 0), NONE);
            for (int i : new int[] {-1, 1, 2}) due("breach " + i, x.breach(0, drive, i, 0), NONE);
            for (int i : FAR) due("breach " + i, x.breach(0, drive, i, 0), NONE);
            for (int what : new int[] {-1, 3, 4}) due("what " + what, x.breach(0, drive, 0, what), NONE);
            for (int what : FAR) due("what " + what, x.breach(0, drive, 0, what), NONE);
        }
    }
}
