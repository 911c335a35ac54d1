/** The edges of FROM NOW: promises 12 and 13. Each test bears the sentence it holds. */
public final class AheadEdgesTest extends Checks {
    public static void main(String[] args) {
        mayOfAnEmptyRow();
        mayUpToC();
        mayBehindABreak();
        mayBehindASplitOne();
        mayByRuleOneAlone();
        mayOfNoCard();
        mostOfZeroToTwoThousand();
        mostOfAnEmptyRow();
        mostWithABreak();
        mostWhateverIsOverAlready();
        restGoesOnWithTheRun();
        restGoesOnWithAPart();
        firstPartComesFirst();
        splitIsShorter();
        splitNeedsDriveBetween();
        partsThatServeNobody();
        leastLaw();
        mostLaw();
        ferryAtTheEnd();
        fullRow();
        readings();
        askingChangesNothing();
        mostForOthers();
        end();
    }

    private static void dueMost(String name, WheelHours x, int... want) {
        for (int i = 0; i < want.length; i += 2) {
            due(name + ", most of " + want[i], x.most(0, false, want[i]), want[i + 1]);
        }
    }

    private static void mayOfAnEmptyRow() {
        for (int card = 0; card < 4; card++) {
            due("at first", new WheelHours().may(card, false), 270);
            due("at first", new WheelHours().may(card, true), 270);
        }
        due("c of 1", row("c1").may(0, false), 1);
        due("c of 9999", row("c9999").may(0, false), 9999);
    }

    /** "How many MINUTES may be driven at once" */
    private static void mayUpToC() {
        due("one driven", row("", DRIVE, 1).may(0, false), 269);
        due("one left", row("", DRIVE, 269).may(0, false), 1);
        due("none left", row("", DRIVE, 270).may(0, false), 0);
        due("one OVER", row("", DRIVE, 271).may(0, false), 0);
        due("all OVER", row("c1", DRIVE, 20160).may(0, false), 0);
        due("c of 1, none left", row("c1", DRIVE, 1).may(0, false), 0);
    }

    private static void mayBehindABreak() {
        due("less than b", row("", DRIVE, 260, REST, 44).may(0, false), 10);
        due("b", row("", DRIVE, 260, REST, 45).may(0, false), 270);
        due("whatever was OVER", row("", DRIVE, 500, REST, 45).may(0, false), 270);
        due("work behind it", row("", DRIVE, 260, REST, 45, WORK, 500).may(0, false), 270);
        due("drive behind it", row("", DRIVE, 260, REST, 45, DRIVE, 1).may(0, false), 269);
        due("drive in it", row("", DRIVE, 260, REST, 44, DRIVE, 1, REST, 1).may(0, false), 9);
    }

    private static void mayBehindASplitOne() {
        due("s and t", row("", DRIVE, 100, REST, 15, DRIVE, 100, REST, 30).may(0, false), 270);
        due("less than s", row("", DRIVE, 100, REST, 14, DRIVE, 100, REST, 30).may(0, false), 70);
        due("less than t", row("", DRIVE, 100, REST, 15, DRIVE, 100, REST, 29).may(0, false), 70);
        due("t alone", row("", DRIVE, 200, REST, 30).may(0, false), 70);
        due("t twice", row("", DRIVE, 100, REST, 30, DRIVE, 100, REST, 30).may(0, false), 270);
    }

    /** "by RULE 1 alone" */
    private static void mayByRuleOneAlone() {
        WheelHours x = row("d1;e1;w1;x0;y0", DRIVE, 100);
        due("may", x.may(0, false), 170);
        dueMost("RULE 1 alone", x, 170, 170, 215, 170, 216, 171);
        due("behind 1440 MINUTES, too", row("", WORK, 20000, DRIVE, 100).may(0, false), 170);
    }

    private static void mayOfNoCard() {
        WheelHours x = row("", DRIVE, 100);
        for (int card : new int[] {-1, 4}) due("card " + card, x.may(card, false), NONE);
        for (int card : FAR) due("card " + card, x.may(card, true), NONE);
    }

    /** "in the next m MINUTES (0 to 2000); NONE: no such ones" */
    private static void mostOfZeroToTwoThousand() {
        WheelHours x = new WheelHours();
        due("-1", x.most(0, false, -1), NONE);
        due("0", x.most(0, false, 0), 0);
        due("1", x.most(0, false, 1), 1);
        // six spells of 315 MINUTES, and 110 of the seventh
        due("1999", x.most(0, false, 1999), 6 * 270 + 109);
        due("2000", x.most(0, false, 2000), 6 * 270 + 110);
        due("2001", x.most(0, false, 2001), NONE);
    }

    private static void mostOfAnEmptyRow() {
        for (int card = 0; card < 4; card++) {
            int[] want = {269, 269, 270, 270, 271, 270, 315, 270, 316, 271, 585, 540, 586, 540, 630, 540, 631, 541};
            for (int i = 0; i < want.length; i += 2) due("most of " + want[i], new WheelHours().most(card, true, want[i]), want[i + 1]);
        }
    }

    private static void mostWithABreak() {
        dueMost("one left", row("", DRIVE, 269), 0, 0, 1, 1, 2, 1, 46, 1, 47, 2);
        dueMost("none left", row("", DRIVE, 270), 0, 0, 1, 0, 45, 0, 46, 1, 315, 270, 360, 270, 361, 271);
        dueMost("counted from the last zero", row("", DRIVE, 100, REST, 45, DRIVE, 269), 1, 1, 46, 1, 47, 2);
        dueMost("a RUN with WORK behind it does not go on", row("", DRIVE, 270, REST, 14, WORK, 1), 45, 0, 46, 1);
        dueMost("but it is a first part", row("", DRIVE, 270, REST, 15, WORK, 1), 30, 0, 31, 1);
    }

    /** "none of them, whatever is OVER already" */
    private static void mostWhateverIsOverAlready() {
        dueMost("one OVER", row("", DRIVE, 271), 45, 0, 46, 1);
        dueMost("many OVER", row("", DRIVE, 2000), 45, 0, 46, 1, 361, 271);
        dueMost("OVER, a first part came", row("", DRIVE, 100, REST, 15, DRIVE, 300), 30, 0, 31, 1);
        dueMost("OVER, a first part goes on", row("", DRIVE, 300, REST, 15), 30, 0, 31, 1);
    }

    /** "REST goes on with a RUN at the ROW's end" */
    private static void restGoesOnWithTheRun() {
        for (int lain = 1; lain <= 44; lain++) {
            WheelHours x = row("", DRIVE, 270, REST, lain);
            dueMost("lain " + lain, x, 45 - lain, 0, 46 - lain, 1, 47 - lain, 2);
        }
        dueMost("lain long enough", row("", DRIVE, 270, REST, 45), 1, 1, 270, 270, 315, 270, 316, 271);
        dueMost("of two acts", row("", DRIVE, 270, REST, 20, REST, 20), 5, 0, 6, 1);
    }

    private static void restGoesOnWithAPart() {
        WheelHours x = row("", DRIVE, 100, REST, 15, DRIVE, 170);
        dueMost("a first part came", x, 30, 0, 31, 1);
        x = row("", DRIVE, 100, REST, 15, DRIVE, 169);
        dueMost("a first part came, one left", x, 1, 1, 31, 1, 32, 2);
        x = row("", DRIVE, 100, REST, 15, DRIVE, 170, REST, 29);
        dueMost("a second part goes on", x, 1, 0, 2, 1);
        x = row("", DRIVE, 100, REST, 15, DRIVE, 170, REST, 30);
        dueMost("a second part is there", x, 1, 1, 270, 270, 315, 270, 316, 271);
        // one MINUTE more makes the RUN a first part, then one of DRIVE, and 30 more of REST
        x = row("b90", DRIVE, 269, REST, 14);
        dueMost("a first part goes on", x, 1, 1, 32, 1, 33, 2);
        x = row("b90", DRIVE, 269, REST, 15);
        dueMost("a first part is there", x, 1, 1, 31, 1, 32, 2);
    }

    private static void firstPartComesFirst() {
        WheelHours x = row("c10;b20;s4;t5", DRIVE, 9);
        dueMost("REST, DRIVE, REST, DRIVE", x, 1, 1, 10, 1, 11, 2, 12, 3);
        x = row("c10;b20;s4;t5", DRIVE, 8);
        dueMost("two left", x, 2, 2, 11, 2, 12, 3);
    }

    private static void splitIsShorter() {
        WheelHours x = row("c10;b20;s4;t5");
        dueMost("9 of REST a spell", x, 10, 10, 19, 10, 20, 11, 29, 20, 38, 20, 39, 21, 2000, 1055);
        x = row("c10;b9;s4;t5");
        dueMost("both alike", x, 19, 10, 20, 11, 38, 20, 39, 21);
        x = row("c10;b8;s4;t5");
        dueMost("a whole one is shorter", x, 18, 10, 19, 11, 36, 20, 37, 21);
    }

    private static void splitNeedsDriveBetween() {
        WheelHours x = row("c1;b9;s1;t1", DRIVE, 1);
        dueMost("none left", x, 9, 0, 10, 1, 19, 1, 20, 2);
        x = row("c2;b9;s1;t1", DRIVE, 2);
        dueMost("none left, two a spell", x, 9, 0, 10, 1, 11, 2, 13, 2, 14, 3);
        x = row("c1;b9;s1;t1");
        dueMost("a first part from the beginning", x, 1, 1, 3, 1, 4, 2, 13, 2, 14, 3);
    }

    private static void partsThatServeNobody() {
        dueMost("t above b", row("c10;b5;s1;t9", DRIVE, 5, REST, 1, DRIVE, 5), 5, 0, 6, 1);
        dueMost("s above b", row("c10;b5;s9;t1", DRIVE, 10), 5, 0, 6, 1);
        dueMost("s of 1 and t of b", row("c10;b5;s1;t5"), 15, 10, 16, 11);
    }

    private static void leastLaw() {
        WheelHours x = row("c1;b1;s1;t1");
        dueMost("every second one", x, 0, 0, 1, 1, 2, 1, 3, 2, 1999, 1000, 2000, 1000);
        x = row("c1;b1;s1;t1", DRIVE, 1);
        dueMost("REST first", x, 1, 0, 2, 1, 3, 1, 4, 2, 1999, 999, 2000, 1000);
    }

    private static void mostLaw() {
        WheelHours x = row("c9999;b9999;s9999;t9999");
        dueMost("all of them", x, 0, 0, 1, 1, 1999, 1999, 2000, 2000);
        x = row("c9999;b9999;s9999;t9999", DRIVE, 9998);
        dueMost("one left", x, 1, 1, 2000, 1);
        x = row("c9999;b9999;s9999;t9999", DRIVE, 9999, REST, 7999);
        dueMost("a MINUTE of REST too few", x, 1999, 0, 2000, 0);
        x = row("c9999;b9999;s9999;t9999", DRIVE, 9999, REST, 8001);
        dueMost("one MINUTE behind the longest break", x, 1998, 0, 1999, 1, 2000, 2);
    }

    /** A FERRY at the ROW's end is WORK: no RUN is there that could go on. */
    private static void ferryAtTheEnd() {
        dueMost("a ferry last", row("", DRIVE, 270, REST, 14, FERRY, 3), 45, 0, 46, 1);
        dueMost("REST behind it", row("", DRIVE, 270, REST, 14, FERRY, 3, REST, 1), 27, 0, 28, 1);
    }

    private static void fullRow() {
        WheelHours x = row("", WORK, 19890, DRIVE, 270);
        due("full", x.act(0, REST, 1, 0), NONE);
        due("may", x.may(0, false), 0);
        dueMost("FROM NOW goes on", x, 45, 0, 46, 1, 2000, 1685);
        x = new WheelHours();
        for (int i = 0; i < 60; i++) due("act", x.act(0, i % 2 == 0 ? DRIVE : REST, 1, 0), i);
        due("sixty acts", x.may(0, false), 240);
        dueMost("sixty acts", x, 240, 240, 284, 240, 285, 241);
    }

    private static void readings() {
        WheelHours x = row("", DRIVE, 200, UNKNOWN, 45);
        due("as REST", x.may(0, false), 270);
        due("as DRIVE", x.may(0, true), 25);
        due("as REST", x.most(0, false, 100), 100);
        due("as DRIVE", x.most(0, true, 70), 25);
        due("as DRIVE", x.most(0, true, 71), 26);
        x = row("", DRIVE, 270, UNKNOWN, 44);
        due("it goes on", x.most(0, false, 2), 1);
        due("it is OVER", x.most(0, true, 45), 0);
        due("it is OVER", x.most(0, true, 46), 1);
    }

    private static void askingChangesNothing() {
        WheelHours x = row("", DRIVE, 100, REST, 15, DRIVE, 170, REST, 29);
        for (int i = 0; i < 3; i++) {
            due("may", x.may(0, false), 0);
            dueMost("again", x, 2000, 1729, 2, 1, 1, 0);
        }
        due("acts", x.count(0, 0), 4);
        due("minutes", x.count(0, 1), 314);
    }

    private static void mostForOthers() {
        WheelHours x = row("", DRIVE, 100);
        boolean[] readings = {false, true};
        for (boolean drive : readings) {
            for (int card : new int[] {-1, 4}) due("card " + card, x.most(card, drive, 10), NONE);
            for (int card : FAR) due("card " + card, x.most(card, drive, 10), NONE);
            for (int m : new int[] {-1, 2001, 20160}) due("m " + m, x.most(0, drive, m), NONE);
            for (int m : FAR) due("m " + m, x.most(0, drive, m), NONE);
        }
    }
}
