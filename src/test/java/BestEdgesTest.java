/** The edges of DAYS and of THE BEST: promises 10 and 11. Each test bears the sentence it holds. */
public final class BestEdgesTest extends Checks {
    public static void main(String[] args) {
        emptyRowHasNoDay();
        fullRestOfROrMore();
        reducedRestOfQOrMore();
        lessThanR();
        notMoreThanYInAWeek();
        weekOfItsLastMinute();
        onlyTheFirstTwelve();
        allTheFirstTwelveCount();
        whichRunsAreSuch();
        ifTheRowGoesOn();
        takenAtTheRowsEnd();
        restAtTheBeginning();
        atMostXExtended();
        daysThatBeginInOneWeek();
        overAndLateTogether();
        fewestTaken();
        thenFewestExtended();
        takenGoesAheadOfExtended();
        theEarlierRun();
        theFirstRunInWhichTwoDiffer();
        earlierRunAheadOfEarlierDay();
        theEarlierDayExtended();
        whatOfADay();
        asManyDaysAsThereCanBe();
        heaviest();
        readings();
        askedAlone();
        oneRowBehindAnother();
        forOthers();
        end();
    }

    /** "(An empty ROW has no DAY.)" */
    private static void emptyRowHasNoDay() {
        WheelHours x = new WheelHours();
        for (int card = 0; card < 4; card++) {
            for (int what = 0; what < 5; what++) due("no day", x.day(card, false, 0, what), NONE);
            due("no weight", x.weight(card, false), 0);
            due("no weight", x.weight(card, true), 0);
        }
        dueDays("one minute", row("", WORK, 1), 0, 1, 0, 0, 0);
        dueDays("one minute of drive", row("", DRIVE, 1), 0, 1, 1, 0, 0);
        dueDays("one minute of rest", row("", REST, 1), 0, 1, 0, 0, 0);
    }

    /** "A RUN of r MINUTES or more is a FULL REST." */
    private static void fullRestOfROrMore() {
        dueDays("less than r", row("y0", WORK, 100, REST, 659, WORK, 100), 0, 859, 0, 0, 0);
        dueDays("r", row("y0", WORK, 100, REST, 660, WORK, 100), 0, 760, 0, 0, 1, 760, 860, 0, 0, 0);
        dueDays("more than r", row("y0", WORK, 100, REST, 661, WORK, 100), 0, 761, 0, 0, 1, 761, 861, 0, 0, 0);
        dueDays("it ends a day, needed or not", row("", WORK, 1, REST, 660, WORK, 1, REST, 660), 0, 661, 0, 0, 1, 661, 1322, 0, 0, 1);
        dueDays("r of 1", row("r1;q1", WORK, 1, REST, 1, WORK, 1), 0, 2, 0, 0, 1, 2, 3, 0, 0, 0);
        dueDays("of two acts", row("y0", REST, 330, REST, 330, WORK, 1), 0, 660, 0, 0, 1, 660, 661, 0, 0, 0);
    }

    /** "A RUN of q or more ... may be taken as a REDUCED one" */
    private static void reducedRestOfQOrMore() {
        dueEnds("less than q", row("", WORK, 900, REST, 539, WORK, 100), 99, 1539);
        dueEnds("q", row("", WORK, 900, REST, 540, WORK, 100), 0, 1440, 1540);
        dueEnds("more than q", row("", WORK, 900, REST, 541, WORK, 100), 0, 1441, 1541);
        dueEnds("nearly r", row("", WORK, 900, REST, 659, WORK, 100), 0, 1559, 1659);
        dueEnds("q of 1", row("q1", WORK, 1439, REST, 1, WORK, 1440), 0, 1440, 2880);
    }

    /** "(less than r)" */
    private static void lessThanR() {
        dueEnds("q is r, less", row("q660", WORK, 900, REST, 659, WORK, 100), 219, 1659);
        dueEnds("q above r, less than r", row("q700", WORK, 900, REST, 659, WORK, 100), 219, 1659);
        dueDays("q above r, r", row("q700", WORK, 700, REST, 660, WORK, 100), 0, 1360, 0, 0, 1, 1360, 1460, 0, 0, 0);
        dueDays("r is q and 1", row("r541", WORK, 900, REST, 540, WORK, 100), 0, 1440, 0, 0, 2, 1440, 1540, 0, 0, 0);
        dueDays("r", row("r541", WORK, 899, REST, 541, WORK, 100), 0, 1440, 0, 0, 1, 1440, 1540, 0, 0, 0);
    }

    /** WORK of 900 and REST of 540, n times: each RUN has to be taken lest the DAY be LATE. */
    private static WheelHours days(WheelHours x, int n) {
        for (int i = 0; i < n; i++) addTo(x, 0, WORK, 900, REST, 540);
        return x;
    }

    /** "but not more than y that end in one WEEK" */
    private static void notMoreThanYInAWeek() {
        WheelHours x = days(row(""), 4);
        addTo(x, 0, WORK, 1);
        dueEnds("three at first", x, 1, 1440, 2880, 4320, 5761);
        due("law", tell(x, "y4"), 0);
        dueEnds("y of 4", x, 0, 1440, 2880, 4320, 5760, 5761);
        due("law", tell(x, "y99"), 0);
        dueEnds("y of 99", x, 0, 1440, 2880, 4320, 5760, 5761);
        due("law", tell(x, "y2"), 0);
        dueEnds("y of 2", x, 1441, 1440, 2880, 5761);
        due("law", tell(x, "y1"), 0);
        dueEnds("y of 1", x, 2881, 1440, 5761);
        due("law", tell(x, "y0"), 0);
        dueEnds("y of 0", x, 4321, 5761);
    }

    /** "(A RUN ends in the WEEK of its last MINUTE.)" */
    private static void weekOfItsLastMinute() {
        // the second RUN's last MINUTE is 10079, then 10080
        WheelHours x = days(row("y1", REST, 7200), 2);
        addTo(x, 0, WORK, 1);
        dueEnds("both in the first week", x, 1, 7200, 8640, 10081);
        x = days(row("y1", REST, 7201), 2);
        addTo(x, 0, WORK, 1);
        dueEnds("one in each week", x, 0, 7201, 8641, 10081, 10082);
        x = days(row("y1", REST, 7560), 2);
        addTo(x, 0, WORK, 1);
        dueEnds("it began in the first week", x, 0, 7560, 9000, 10440, 10441);
        // one that ends with the first week leaves the second week all of its own
        x = days(row("y1", REST, 8640), 3);
        addTo(x, 0, WORK, 1);
        dueEnds("the second week's one", x, 1, 8640, 10080, 11520, 12961);
        due("law", tell(x, "y2"), 0);
        dueEnds("the second week's two", x, 0, 8640, 10080, 11520, 12960, 12961);
        // the last MINUTE of all
        x = days(row("y1", REST, 18720), 1);
        dueEnds("nothing is saved by it", x, 0, 18720, 20160);
        due("so it is not taken", x.day(0, false, 1, 4), 0);
    }

    /** "only the first 12 such RUNS may be" */
    private static void onlyTheFirstTwelve() {
        String law = "q1;r700;y99";
        for (int useless = 0; useless <= 12; useless++) {
            WheelHours x = row(law);
            for (int i = 0; i < useless; i++) addTo(x, 0, WORK, 1, REST, 1);
            addTo(x, 0, WORK, 900, REST, 1, WORK, 541);
            int total = 2 * useless + 1442;
            // with 12 ahead of it the last one is the thirteenth; the twelfth is then the best there is
            if (useless < 12) dueEnds("a RUN behind " + useless, x, 0, total - 541, total);
            else dueEnds("a RUN behind 12", x, 2, 24, total);
        }
        WheelHours x = row("q10;r1000;y99");
        for (int i = 0; i < 14; i++) addTo(x, 0, WORK, 1000, REST, 10);
        int[] ends = new int[13];
        for (int i = 0; i < 12; i++) ends[i] = 1010 * (i + 1);
        ends[12] = 14 * 1010;
        dueEnds("twelve of fourteen", x, 2 * 1010 - 1440, ends);
    }

    /** They count whether they are taken or not, in whatever WEEK they end. */
    private static void allTheFirstTwelveCount() {
        WheelHours x = row("q1;r700;y99");
        for (int i = 0; i < 12; i++) addTo(x, 0, WORK, 1, REST, 1);
        addTo(x, 0, REST, 10080, WORK, 900, REST, 1, WORK, 541);
        // the twelfth grew to a FULL REST, so the last one is the twelfth
        dueEnds("the twelfth", x, 0, 10104, 11005, 11546);
        x = row("q1;r700;y99");
        for (int i = 0; i < 12; i++) addTo(x, 0, WORK, 1, REST, 1);
        addTo(x, 0, WORK, 1, REST, 10080, WORK, 900, REST, 1, WORK, 541);
        dueEnds("the thirteenth, in another week", x, 2, 10105, 11547);
    }

    private static void whichRunsAreSuch() {
        WheelHours x = row("q2;r700;y99");
        for (int i = 0; i < 20; i++) addTo(x, 0, WORK, 1, REST, 1);
        addTo(x, 0, WORK, 900, REST, 2, WORK, 600);
        dueEnds("shorter ones are none of the twelve", x, 0, 942, 1542);
        x = row("q2;r3;y99");
        for (int i = 0; i < 20; i++) addTo(x, 0, WORK, 1, REST, 3);
        addTo(x, 0, WORK, 900, REST, 2, WORK, 600);
        due("longer ones are none of the twelve", x.day(0, false, 20, 1), 982);
        due("longer ones are none of the twelve", x.day(0, false, 20, 4), 2);
        due("longer ones are none of the twelve", x.weight(0, false), 0);
    }

    /** "at the end of each FULL REST and each that is taken, if the ROW goes on" */
    private static void ifTheRowGoesOn() {
        WheelHours x = row("", WORK, 100, REST, 660);
        dueDays("it does not", x, 0, 760, 0, 0, 1);
        addTo(x, 0, WORK, 1);
        dueDays("it does", x, 0, 760, 0, 0, 1, 760, 761, 0, 0, 0);
        due("put right to REST", x.put(0, 2, REST, 0), true);
        dueDays("the RUN does", x, 0, 761, 0, 0, 1);
        dueDays("full of it", row("", WORK, 100, REST, 20060), 0, 20160, 0, 0, 1);
    }

    private static void takenAtTheRowsEnd() {
        dueDays("no need", row("", WORK, 900, REST, 540), 0, 1440, 0, 0, 0);
        dueDays("it would save nothing", row("", WORK, 901, REST, 540), 0, 1441, 0, 0, 0);
        due("a minute LATE", row("", WORK, 901, REST, 540).weight(0, false), 1);
        dueDays("it saves a minute", row("", WORK, 900, REST, 541), 0, 1441, 0, 0, 2);
        due("no minute LATE", row("", WORK, 900, REST, 541).weight(0, false), 0);
        dueDays("it may not be", row("y0", WORK, 900, REST, 541), 0, 1441, 0, 0, 0);
        due("a minute LATE", row("y0", WORK, 900, REST, 541).weight(0, false), 1);
        dueDays("a FULL one", row("", WORK, 1000, REST, 660), 0, 1660, 0, 0, 1);
        due("LATE", row("", WORK, 1000, REST, 660).weight(0, false), 220);
    }

    /** "A DAY begins at MINUTE 0" */
    private static void restAtTheBeginning() {
        dueDays("FULL", row("", REST, 660, DRIVE, 9), 0, 660, 0, 0, 1, 660, 669, 9, 0, 0);
        dueDays("too short", row("", REST, 539, DRIVE, 9), 0, 548, 9, 0, 0);
        dueDays("not needed", row("", REST, 540, DRIVE, 9), 0, 549, 9, 0, 0);
        dueDays("needed", row("", REST, 540, WORK, 901), 0, 540, 0, 0, 2, 540, 1441, 0, 0, 0);
    }

    /** "At most x of the DAYS that begin in one WEEK may be EXTENDED." */
    private static void atMostXExtended() {
        WheelHours x = row("", DRIVE, 600, REST, 660, DRIVE, 600, REST, 660, DRIVE, 600, REST, 660);
        dueExtended("two at first", x, 60, 1, 1, 0);
        due("law", tell(x, "x0"), 0);
        dueExtended("x of 0", x, 180, 0, 0, 0);
        due("law", tell(x, "x1"), 0);
        dueExtended("x of 1", x, 120, 1, 0, 0);
        due("law", tell(x, "x3"), 0);
        dueExtended("x of 3", x, 0, 1, 1, 1);
        due("law", tell(x, "x99"), 0);
        dueExtended("x of 99", x, 0, 1, 1, 1);
    }

    /** The WEEK of a DAY's first MINUTE: 10079 or 10080. */
    private static void daysThatBeginInOneWeek() {
        WheelHours x = row("x1", DRIVE, 600, REST, 9479, DRIVE, 600);
        dueExtended("begins at 10079", x, 60, 1, 0);
        x = row("x1", DRIVE, 600, REST, 9480, DRIVE, 600);
        dueExtended("begins at 10080", x, 0, 1, 1);
        x = row("x1", REST, 10079, DRIVE, 600, REST, 660, DRIVE, 600, REST, 660, DRIVE, 600);
        dueExtended("one in the first, two in the second", x, 60, 0, 1, 1, 0);
        x = row("x1", REST, 10080, DRIVE, 600, REST, 660, DRIVE, 600, REST, 660, DRIVE, 600);
        dueExtended("three in the second", x, 120, 0, 1, 0, 0);
    }

    /** "so that OVER of RULE 2 and LATE together are least" */
    private static void overAndLateTogether() {
        // one may be taken: the first saves 50 OVER, the second 49, 50 or 51 LATE
        for (int saved = 49; saved <= 51; saved++) {
            WheelHours x = row("y1;x0;d100", DRIVE, 100, REST, 540, DRIVE, 50, REST, 660, WORK, 240, REST, 540, WORK, saved, REST, 660);
            int total = 1350 + 240 + 540 + saved + 660;
            if (saved <= 50) dueEnds("50 and " + saved, x, saved, 640, 1350, total);
            else dueEnds("50 and " + saved, x, 50, 1350, 2130, total);
        }
        // one may be taken or not, one DAY may be EXTENDED: what each saves is added
        WheelHours x = row("y1;x1", DRIVE, 700, REST, 540, WORK, 300);
        due("100 OVER, none LATE", x.weight(0, false), 100);
        dueDays("100 OVER, none LATE", x, 0, 1240, 700, 1, 2, 1240, 1540, 0, 0, 0);
    }

    /** "of like ones with fewest taken" */
    private static void fewestTaken() {
        dueEnds("no minute is saved", row("", WORK, 800, REST, 540, WORK, 100), 0, 1440);
        dueEnds("one minute is saved", row("", WORK, 800, REST, 540, WORK, 101), 0, 1340, 1441);
        dueEnds("one is enough", row("", WORK, 500, REST, 540, WORK, 10, REST, 540, WORK, 500), 0, 1040, 2090);
        dueEnds("both are needed", row("", WORK, 500, REST, 540, WORK, 10, REST, 540, WORK, 1400), 0, 1040, 1590, 2990);
    }

    /** "then with fewest EXTENDED" */
    private static void thenFewestExtended() {
        dueDays("at d", row("", DRIVE, 540), 0, 540, 540, 0, 0);
        dueDays("above d", row("", DRIVE, 541), 0, 541, 541, 1, 0);
        dueDays("e is d", row("e540", DRIVE, 541), 0, 541, 541, 0, 0);
        // either RUN does; the first one leaves 540, then 541 for one DAY
        WheelHours x = row("", DRIVE, 60, REST, 540, DRIVE, 240, REST, 540, DRIVE, 300);
        dueDays("none with the first", x, 0, 600, 60, 0, 2, 600, 1680, 540, 0, 0);
        x = row("", DRIVE, 60, REST, 540, DRIVE, 241, REST, 540, DRIVE, 300);
        dueDays("none with the second alone", x, 0, 1381, 301, 0, 2, 1381, 1681, 300, 0, 0);
    }

    private static void takenGoesAheadOfExtended() {
        WheelHours x = row("", DRIVE, 300, REST, 540, DRIVE, 300);
        dueDays("none taken, one EXTENDED", x, 0, 1140, 600, 1, 0);
        due("law", tell(x, "x0"), 0);
        dueDays("none may be EXTENDED", x, 0, 840, 300, 0, 2, 840, 1140, 300, 0, 0);
        due("law", tell(x, "e599"), 0);
        dueDays("a minute is saved", x, 0, 840, 300, 0, 2, 840, 1140, 300, 0, 0);
    }

    /** "of like ones that which takes the earlier RUN" */
    private static void theEarlierRun() {
        WheelHours x = row("", WORK, 300, REST, 540, WORK, 10, REST, 540, WORK, 50, REST, 540);
        dueEnds("the first of two", x, 0, 840, 1980);
        x = row("", WORK, 300, REST, 540, WORK, 10, REST, 540, WORK, 891);
        dueEnds("the first would be a minute LATE", x, 0, 1390, 2281);
        x = row("", WORK, 300, REST, 540, WORK, 10, REST, 540, WORK, 890);
        dueEnds("the first is just in time", x, 0, 840, 2280);
    }

    /** "in the first RUN in which two differ" */
    private static void theFirstRunInWhichTwoDiffer() {
        // the third has to be taken, and the first or the second
        WheelHours x = row("q10;r9999", WORK, 500, REST, 10, WORK, 190, REST, 10, WORK, 900, REST, 10, WORK, 1000);
        dueEnds("the first and the third", x, 0, 510, 1620, 2620);
        x = row("q10;r9999", WORK, 500, REST, 10, WORK, 190, REST, 10, WORK, 1230, REST, 10, WORK, 1000);
        dueEnds("just in time", x, 0, 510, 1950, 2950);
        x = row("q10;r9999", WORK, 500, REST, 10, WORK, 190, REST, 10, WORK, 1231, REST, 10, WORK, 1000);
        dueEnds("a minute too late", x, 0, 710, 1951, 2951);
    }

    /** "then that which has the earlier DAY EXTENDED": the earlier RUN goes ahead of it */
    private static void earlierRunAheadOfEarlierDay() {
        // the first RUN taken leaves 300 and 590, the second one 590 and 300
        WheelHours x = row("", DRIVE, 300, REST, 540, DRIVE, 290, REST, 540, DRIVE, 300);
        dueDays("the earlier RUN, the later DAY", x, 0, 840, 300, 0, 2, 840, 1970, 590, 1, 0);
        // the first RUN is taken and one MINUTE is OVER or LATE either way: the second RUN with the last DAY
        // EXTENDED, or the third RUN with the first DAY EXTENDED
        x = row("x1;y2", DRIVE, 541, REST, 540, DRIVE, 261, REST, 540, DRIVE, 100, REST, 540, DRIVE, 442);
        due("one minute", x.weight(0, false), 1);
        dueDays("the second RUN, the last DAY", x, 0, 1081, 541, 0, 2, 1081, 1882, 261, 0, 2, 1882, 2964, 542, 1, 0);
    }

    /** "that which has the earlier DAY EXTENDED likewise" */
    private static void theEarlierDayExtended() {
        String law = "r300;q300;";
        dueExtended("alike", row(law + "x1", DRIVE, 580, REST, 300, DRIVE, 580), 40, 1, 0);
        dueExtended("a minute more", row(law + "x1", DRIVE, 580, REST, 300, DRIVE, 581), 40, 0, 1);
        dueExtended("a minute less", row(law + "x1", DRIVE, 580, REST, 300, DRIVE, 579), 39, 1, 0);
        dueExtended("both save 60", row(law + "x1", DRIVE, 600, REST, 300, DRIVE, 700), 160, 1, 0);
        dueExtended("two of three", row(law + "x2", DRIVE, 580, REST, 300, DRIVE, 560, REST, 300, DRIVE, 580), 20, 1, 0, 1);
        dueExtended("the first day in which two differ", row(law + "x2", DRIVE, 580, REST, 300, DRIVE, 560, REST, 300, DRIVE, 560), 20, 1, 1, 0);
        dueExtended("none that needs none", row(law + "x2", DRIVE, 540, REST, 300, DRIVE, 541), 0, 0, 1);
    }

    /** "what 0 its beginning, 1 its end, 2 MINUTES of DRIVE, 3 whether it is EXTENDED (1, 0), 4 by what it ends" */
    private static void whatOfADay() {
        WheelHours x = row("", DRIVE, 300, WORK, 340, DRIVE, 260, REST, 540, DRIVE, 100, REST, 660, WORK, 50, DRIVE, 7);
        dueDays("ended by all three", x, 0, 1440, 560, 1, 2, 1440, 2200, 100, 0, 1, 2200, 2257, 7, 0, 0);
    }

    private static void asManyDaysAsThereCanBe() {
        WheelHours x = row("r1;q1");
        for (int i = 0; i < 30; i++) addTo(x, 0, REST, 1, DRIVE, 1);
        int[] want = new int[5 * 31];
        for (int i = 0; i < 31; i++) {
            want[5 * i] = i == 0 ? 0 : 2 * i - 1;
            want[5 * i + 1] = i == 30 ? 60 : 2 * i + 1;
            want[5 * i + 2] = i == 0 ? 0 : 1;
            want[5 * i + 4] = i == 30 ? 0 : 1;
        }
        dueDays("thirty-one", x, want);
        // all of them EXTENDED, each DAY drives 2 of 3 MINUTES above d
        x = row("r1;q1;x99;d1;e2;c9999");
        for (int i = 0; i < 30; i++) addTo(x, 0, DRIVE, 3, REST, 1);
        due("each a minute OVER", x.weight(0, false), 30);
        for (int i = 0; i < 30; i++) due("each is EXTENDED", x.day(0, false, i, 3), 1);
        due("law", tell(x, "r1;q1;x29;d1;e2;c9999"), 0);
        due("all but one", x.weight(0, false), 31);
        for (int i = 0; i < 30; i++) due("all but the last", x.day(0, false, i, 3), i < 29 ? 1 : 0);
    }

    private static void heaviest() {
        dueEnds("all drive", row("", DRIVE, 20160), 20160 - 600 + 18720, 20160);
        dueEnds("all drive, the least law", row("d1;e1", DRIVE, 20160), 20160 - 1 + 18720, 20160);
        dueEnds("all rest", row("", REST, 20160), 0, 20160);
        dueEnds("all rest, the longest r", row("r9999;q9998", REST, 20160), 9999 - 1440, 20160);
    }

    private static void readings() {
        WheelHours x = row("", DRIVE, 300, UNKNOWN, 660, DRIVE, 300);
        due("as REST", x.day(0, false, 0, 1), 960);
        due("as REST", x.day(0, false, 1, 1), 1260);
        due("as REST", x.weight(0, false), 0);
        due("as DRIVE", x.day(0, true, 0, 1), 1260);
        due("as DRIVE", x.day(0, true, 0, 2), 1260);
        due("as DRIVE", x.day(0, true, 0, 3), 1);
        due("as DRIVE", x.day(0, true, 1, 1), NONE);
        due("as DRIVE", x.weight(0, true), 660);
        // a FERRY makes the RUN long enough
        x = row("", WORK, 100, REST, 300, FERRY, 60, UNKNOWN, 300, WORK, 100);
        due("as REST", x.day(0, false, 0, 4), 1);
        due("as DRIVE", x.day(0, true, 0, 4), 0);
        due("as DRIVE", x.day(0, true, 0, 2), 300);
    }

    private static void askedAlone() {
        WheelHours x = row("", DRIVE, 300, REST, 660, DRIVE, 100);
        due("day", x.day(0, false, 1, 2), 100);
        due("another card", x.day(1, false, 0, 0), NONE);
        due("day again", x.day(0, false, 1, 2), 100);
        x.breaches(1, false);
        due("weight", x.weight(0, false), 0);
        due("put right", x.put(0, 1, WORK, 0), true);
        due("one day", x.day(0, false, 1, 2), NONE);
        due("one day", x.day(0, false, 0, 2), 400);
    }

    /** What was reckoned for one ROW or one LAW is nothing to the next one. */
    private static void oneRowBehindAnother() {
        WheelHours x = new WheelHours();
        for (int i = 0; i < 30; i++) addTo(x, 0, DRIVE, 600, REST, 1);
        addTo(x, 1, DRIVE, 600, REST, 1);
        addTo(x, 2, REST, 1);
        String[] laws = {"r1;q1;x0;d1", "r1;q1;x99", "r9999;q9999;x0;d9999", "r2;q1;y0;x0", "r1;q1;x1;d1"};
        int[] ofLong = {30 * 599, 0, 18000 - 9999 + 18030 - 1440, 18000 - 540 + 18030 - 1440, 28 * 599};
        int[] ofShort = {599, 0, 0, 60, 0};
        for (int i = 0; i < 10; i++) {
            due("law", tell(x, laws[i % 5]), 0);
            due("the long one", x.weight(0, false), ofLong[i % 5]);
            due("the short one", x.weight(1, false), ofShort[i % 5]);
            due("the shortest one", x.weight(2, false), 0);
            due("the empty one", x.weight(3, false), 0);
            due("the short one again", x.weight(1, false), ofShort[i % 5]);
        }
    }

    /** "NONE: no such CARD", "NONE for others" */
    private static void forOthers() {
        WheelHours x = row("", DRIVE, 300, REST, 660, DRIVE, 100);
        boolean[] readings = {false, true};
        for (boolean drive : readings) {
            for (int card : new int[] {-1, 4}) due("weight of " + card, x.weight(card, drive), NONE);
            for (int card : FAR) due("weight of " + card, x.weight(card, drive), NONE);
            for (int card : new int[] {-1, 4}) due("day of " + card, x.day(card, drive, 0, 1), NONE);
            for (int card : FAR) due("day of " + card, x.day(card, drive, 0, 1), NONE);
            for (int i : new int[] {-1, 2, 3}) due("day " + i, x.day(0, drive, i, 1), NONE);
            for (int i : FAR) due("day " + i, x.day(0, drive, i, 1), NONE);
            for (int what : new int[] {-1, 5, 6}) due("what " + what, x.day(0, drive, 0, what), NONE);
            for (int what : FAR) due("what " + what, x.day(0, drive, 0, what), NONE);
        }
    }
}
