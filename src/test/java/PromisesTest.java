/** Each promise of the document by answers that were reckoned by hand. */
public final class PromisesTest extends Checks {
    public static void main(String[] args) {
        newObject();
        feed();
        lawTexts();
        lawAndTape();
        rule();
        act();
        put();
        ferry();
        trip();
        ruleOne();
        ruleOneSplit();
        ruleTwo();
        ruleThree();
        ruleFour();
        breachOrder();
        bestTakes();
        bestExtends();
        bestWeeks();
        onlyTwelve();
        day();
        may();
        most();
        against();
        look();
        count();
        refusedChangesNothing();
        end();
    }

    private static void newObject() {
        WheelHours x = new WheelHours();
        int[] first = {270, 45, 15, 30, 540, 600, 2, 660, 540, 3, 3360};
        for (int i = 0; i < 11; i++) due("new rule " + i, x.rule("cbstdexrqyw".charAt(i)), first[i]);
        for (int card = 0; card < 4; card++) {
            for (int what = 0; what <= 4; what++) due("new count", x.count(card, what), 0);
            due("new breaches", x.breaches(card, true), 0);
            due("new breach", x.breach(card, true, 0, 0), -1);
            due("new weight", x.weight(card, false), 0);
            due("new day", x.day(card, false, 0, 0), -1);
            due("new may", x.may(card, false), 270);
            due("new most", x.most(card, false, 2000), 1730);
            due("new look", x.look(card, 0, 0), -1);
        }
        for (int what = 0; what <= 2; what++) {
            due("new count of none", x.count(-1, what), 0);
            due("new against", x.against(0, what) + x.against(1, what), 0);
        }
        due("NONE", WheelHours.NONE, -1);
    }

    private static void feed() {
        WheelHours x = new WheelHours();
        for (int size = 20; size <= 80; size += 20) due("feed", feed(x, "w1234;c7;s9;t8;b77;;"), size);
        due("feed above 80", x.feed(0, 0, 0, 0, 0), -1);
        due("tape stays", x.count(-1, 0), 80);
        due("law of its first", x.law(18), 0);
        due("w", x.rule('w'), 1234);
        due("b", x.rule('b'), 77);
        due("tape empty", x.count(-1, 0), 0);
        due("feed with high bytes", x.feed(0x63FFFFFF, -1, -1, -1, -1), 20);
        due("a byte is none of a digit", x.law(20), 201);
        // ints are 'c' '1' '2' '3', '4' ';' 'b' '9' and the next ones go on behind them
        due("feed", x.feed(0x63313233, 0x343B6239, 0x3B733135, 0x3B743330, 0x3B643132), 20);
        due("feed", x.feed(0x333B6531, 0x32340000, 0, 0, 0), 40);
        due("across two feeds", x.law(26), 0);
        due("c", x.rule('c'), 1234);
        due("b", x.rule('b'), 9);
        due("t", x.rule('t'), 30);
        due("d", x.rule('d'), 123);
        due("e", x.rule('e'), 124);
    }

    private static void lawTexts() {
        Object[][] texts = {
            {"", 100}, {"z", 100}, {"C1", 100}, {";", 100}, {" c1", 100}, {"1", 100}, {"\u00ff1", 100},
            {"c", 201}, {"c;", 201}, {"c-1", 201}, {"c 1", 201}, {"c/", 201}, {"c:", 201}, {"cc1", 201}, {"c1;d", 204},
            {"c12345", 305}, {"c00000", 305}, {"x99999", 305}, {"c1234567", 305}, {"x1;y12345", 308},
            {"c0", 401}, {"c0000", 401}, {"w0;z", 401}, {"x100", 401}, {"y0100", 401}, {"y9999", 401}, {"c0z", 401}, {"c1;x100 ", 404},
            {"b0", 401}, {"s0", 401}, {"t0", 401}, {"d0", 401}, {"e0", 401}, {"r0", 401}, {"q0", 401},
            {"c1 ", 502}, {"c1,", 502}, {"c1d2", 502}, {"c1234c", 505}, {"c1\u0000", 502},
            {"c1;", 103}, {"c1;;d2", 103}, {"c1;Z2", 103},
            {"c1", 0}, {"c0001", 0}, {"c9999;x0;y00;x99;y0099;w1", 0}};
        for (Object[] t : texts) {
            WheelHours x = new WheelHours();
            due("law \"" + t[0] + "\"", tell(x, (String) t[0]), (Integer) t[1]);
            if ((Integer) t[1] != 0) due("c stays, \"" + t[0] + "\"", x.rule('c'), 270);
        }
    }

    private static void lawAndTape() {
        WheelHours x = new WheelHours();
        due("law", tell(x, "c5;c0007;x0;y99"), 0);
        due("the later one of a letter", x.rule('c'), 7);
        due("x", x.rule('x'), 0);
        due("y", x.rule('y'), 99);
        due("law with a fault", tell(x, "b9;c8;q"), 207);
        due("law stays", x.rule('c'), 7);
        due("law stays", x.rule('b'), 45);
        due("tape empty behind a fault", x.count(-1, 0), 0);
        due("law", tell(x, "b9"), 0);
        due("untold is as at first", x.rule('c'), 270);
        due("untold is as at first", x.rule('x'), 2);
        feed(x, "c1;c2;c3");
        due("not so many", x.law(21), -1);
        due("not so many", x.law(Integer.MAX_VALUE), -1);
        due("not so many", x.law(-1), -1);
        due("not so many", x.law(Integer.MIN_VALUE), -1);
        due("tape stays", x.count(-1, 0), 20);
        due("law stays", x.rule('b'), 9);
        due("the first five", x.law(5), 0);
        due("c", x.rule('c'), 2);
        due("all of the tape is gone", x.law(1), -1);
        due("no bytes are an empty text", x.law(0), 100);
        String all = "c0001;b0002;s0003;t0004;d0005;e0006;x0007;r0008;q0009;y0010;w0011;c0012;b0013;;;";
        due("feed", feed(x, all), 80);
        due("a fault far behind", x.law(80), 178);
        feed(x, all);
        due("a long law", x.law(77), 0);
        int[] now = {12, 13, 3, 4, 5, 6, 7, 8, 9, 10, 11};
        for (int i = 0; i < 11; i++) due("long rule " + i, x.rule("cbstdexrqyw".charAt(i)), now[i]);
    }

    private static void rule() {
        WheelHours x = new WheelHours();
        for (int letter = -300; letter < 600; letter++) {
            if ("cbstdexrqyw".indexOf(letter) < 0 || letter < 0) due("rule " + letter, x.rule(letter), -1);
        }
        for (int far : FAR) due("rule " + far, x.rule(far), -1);
    }

    private static void act() {
        WheelHours x = new WheelHours();
        due("drive", x.act(0, DRIVE, 1, 1), 0);
        due("vehicle not looked at", x.act(0, WORK, 1, 77), 1);
        due("vehicle not looked at", x.act(0, UNKNOWN, 1, -9), 2);
        due("another card", x.act(3, REST, 20160, 0), 0);
        due("one too many", x.act(3, REST, 1, 0), -1);
        due("minutes", x.act(1, REST, 20161, 0), -1);
        due("minutes", x.act(1, REST, 0, 0), -1);
        due("minutes", x.act(1, REST, -1, 0), -1);
        due("vehicle", x.act(1, DRIVE, 1, -1), -1);
        due("vehicle", x.act(1, DRIVE, 1, 2), -1);
        due("kind", x.act(1, -1, 1, 0), -1);
        due("kind", x.act(1, 5, 1, 0), -1);
        due("card", x.act(-1, 1, 1, 0), -1);
        due("card", x.act(4, 1, 1, 0), -1);
        for (int far : FAR) {
            due("far", x.act(far, 1, 1, 0), -1);
            due("far", x.act(1, far, 1, 0), -1);
            due("far", x.act(1, 1, far, 0), -1);
            due("far", x.act(1, DRIVE, 1, far), -1);
        }
        due("nothing came", x.count(1, 0), 0);
        for (int i = 0; i < 60; i++) due("the sixty", x.act(2, i % 5, 336, i % 2), i);
        due("sixty are there", x.count(2, 0), 60);
        due("20160", x.count(2, 1), 20160);
        x = new WheelHours();
        for (int i = 0; i < 60; i++) x.act(2, WORK, 1, 0);
        due("a sixty-first", x.act(2, WORK, 1, 0), -1);
        x = row("", WORK, 20159);
        due("one minute is left", x.act(0, WORK, 2, 0), -1);
        due("one minute is left", x.act(0, WORK, 1, 0), 1);
        due("full", x.count(0, 1), 20160);
    }

    private static void put() {
        WheelHours x = row("", DRIVE, 100, REST, 50);
        due("put", x.put(0, 0, WORK, 99), true);
        due("kind", x.look(0, 0, 0), WORK);
        due("vehicle gone", x.look(0, 0, 3), -1);
        due("minutes stay", x.look(0, 0, 1), 100);
        due("no drive", x.count(0, 2), 0);
        due("put", x.put(0, 1, DRIVE, 1), true);
        due("vehicle", x.look(0, 1, 3), 1);
        due("drive", x.count(0, 2), 50);
        due("begins", x.look(0, 1, 2), 100);
        due("no act", x.put(0, 2, WORK, 0), false);
        due("no act", x.put(0, -1, WORK, 0), false);
        due("no act", x.put(1, 0, WORK, 0), false);
        due("no card", x.put(-1, 0, WORK, 0), false);
        due("no card", x.put(4, 0, WORK, 0), false);
        due("no kind", x.put(0, 0, 5, 0), false);
        due("no kind", x.put(0, 0, -1, 0), false);
        due("no vehicle", x.put(0, 0, DRIVE, 2), false);
        due("no vehicle", x.put(0, 0, DRIVE, -1), false);
        for (int far : FAR) {
            due("far", x.put(far, 0, WORK, 0) || x.put(0, far, WORK, 0) || x.put(0, 0, far, 0) || x.put(0, 0, DRIVE, far), false);
        }
        due("stays", x.look(0, 0, 0), WORK);
    }

    private static void ferry() {
        due("between rests", row("", REST, 20, FERRY, 10, REST, 20).count(0, 4), 50);
        due("first", row("", FERRY, 10, REST, 20).count(0, 4), 20);
        due("last", row("", REST, 20, FERRY, 10).count(0, 4), 20);
        due("two in a row are no rest", row("", REST, 20, FERRY, 10, FERRY, 10, REST, 20).count(0, 3), 2);
        due("behind work", row("", WORK, 5, FERRY, 10, REST, 20).count(0, 4), 20);
        due("ahead of drive", row("", REST, 20, FERRY, 10, DRIVE, 20).count(0, 4), 20);
        due("unknown as rest", row("", UNKNOWN, 20, FERRY, 10, UNKNOWN, 20).count(0, 4), 50);
        due("each of two alone", row("", REST, 1, FERRY, 2, REST, 4, FERRY, 8, REST, 16).count(0, 4), 31);
        // read as DRIVE the FERRY is WORK, and no BREAK is there
        WheelHours x = row("", DRIVE, 200, REST, 20, FERRY, 10, UNKNOWN, 20);
        due("a break", x.may(0, false), 270);
        due("none", x.may(0, true), 50);
        due("a ferry as work is no drive", row("", FERRY, 600).breaches(0, true), 0);
        due("sides", row("", REST, 30, REST, 15, WORK, 1, REST, 1).count(0, 3), 2);
    }

    private static void trip() {
        WheelHours x = new WheelHours();
        due("all of it", x.trip(0, 0, 20160), true);
        due("none left", x.trip(0, 20159, 20160), false);
        due("the other one", x.trip(1, 100, 200), true);
        due("beside it, ahead", x.trip(1, 99, 100), true);
        due("beside it, behind", x.trip(1, 200, 201), true);
        due("the same", x.trip(1, 100, 200), false);
        due("around it", x.trip(1, 50, 300), false);
        due("its first", x.trip(1, 50, 100), false);
        due("inside", x.trip(1, 120, 121), false);
        due("over its end", x.trip(1, 200, 250), false);
        due("turned round", x.trip(1, 400, 300), false);
        due("empty", x.trip(1, 400, 400), false);
        due("minutes", x.trip(1, -1, 5), false);
        due("minutes", x.trip(1, 20160, 20161), false);
        due("vehicle", x.trip(-1, 1, 5), false);
        due("vehicle", x.trip(2, 1, 5), false);
        for (int far : FAR) {
            due("far", x.trip(far, 1000, 1001) || x.trip(1, far, 10) || x.trip(1, 1000, far), false);
        }
        for (int i = 3; i < 20; i++) due("trip " + i, x.trip(1, 20000 - 10 * i, 20000 - 10 * i + 10), true);
        due("twenty are there", x.trip(1, 5000, 5001), false);
        due("count", x.count(-1, 2), 20);
        due("count", x.count(-1, 1), 1);
        due("count", x.count(-1, 3), -1);
    }

    private static void ruleOne() {
        String mild = "d9999;r9999;w9999";
        dueBreaches("at c", row(mild, DRIVE, 270), false);
        dueBreaches("one above c", row(mild, DRIVE, 271), false, 270, 1, 1);
        dueBreaches("work and short rest count on", row(mild, DRIVE, 200, WORK, 60, DRIVE, 60, REST, 14, DRIVE, 20), false, 344, 1, 10);
        dueBreaches("44 is no break", row(mild, DRIVE, 270, REST, 44, DRIVE, 10), false, 314, 1, 10);
        dueBreaches("45 is one", row(mild, DRIVE, 270, REST, 45, DRIVE, 10), false);
        dueBreaches("of 20 and 25", row(mild, DRIVE, 270, REST, 20, REST, 25, DRIVE, 10), false);
        dueBreaches("over on both sides of work are one", row(mild, DRIVE, 280, WORK, 5, DRIVE, 20, REST, 45, DRIVE, 271), false,
                270, 1, 30, 620, 1, 1);
        dueBreaches("unknown as rest", row(mild, DRIVE, 200, UNKNOWN, 100, DRIVE, 100), false);
        dueBreaches("unknown as drive", row(mild, DRIVE, 200, UNKNOWN, 100, DRIVE, 100), true, 270, 1, 130);
        due("no such card", new WheelHours().breaches(4, false), -1);
        due("no such card", new WheelHours().breaches(-1, true), -1);
        WheelHours x = row(mild, DRIVE, 300);
        for (int far : FAR) {
            due("far", x.breaches(far, false), -1);
            due("far", x.breach(far, false, 0, 0), -1);
            due("far", x.breach(0, false, far, 0), -1);
            due("far", x.breach(0, false, 0, far), -1);
        }
        due("what 3", x.breach(0, false, 0, 3), -1);
        due("what -1", x.breach(0, false, 0, -1), -1);
        due("i -1", x.breach(0, false, -1, 0), -1);
        due("card -1", x.breach(-1, false, 0, 0), -1);
    }

    private static void ruleOneSplit() {
        String mild = "d9999;r9999;w9999";
        dueBreaches("15 and 30", row(mild, DRIVE, 100, REST, 15, DRIVE, 170, REST, 30, DRIVE, 270), false);
        dueBreaches("14 and 30", row(mild, DRIVE, 100, REST, 14, DRIVE, 170, REST, 30, DRIVE, 1), false, 314, 1, 1);
        dueBreaches("15 and 29", row(mild, DRIVE, 100, REST, 15, DRIVE, 170, REST, 29, DRIVE, 1), false, 314, 1, 1);
        dueBreaches("30 and 15", row(mild, DRIVE, 100, REST, 30, DRIVE, 170, REST, 15, DRIVE, 1), false, 315, 1, 1);
        dueBreaches("30 and 30", row(mild, DRIVE, 100, REST, 30, DRIVE, 170, REST, 30, DRIVE, 270), false);
        dueBreaches("a first part long before", row(mild, DRIVE, 100, REST, 15, DRIVE, 85, REST, 5, DRIVE, 85, REST, 30, DRIVE, 270), false);
        dueBreaches("a first part at the beginning", row(mild, REST, 15, DRIVE, 270, REST, 30, DRIVE, 270), false);
        dueBreaches("used up once", row(mild, DRIVE, 100, REST, 15, DRIVE, 100, REST, 30, DRIVE, 270, REST, 30, DRIVE, 1), false,
                545, 1, 1);
        dueBreaches("gone with a break", row(mild, DRIVE, 100, REST, 15, DRIVE, 100, REST, 45, DRIVE, 270, REST, 30, DRIVE, 1), false,
                560, 1, 1);
        dueBreaches("a break is no first part", row(mild, REST, 45, DRIVE, 270, REST, 30, DRIVE, 1), false, 345, 1, 1);
        dueBreaches("behind the zero it counts", row(mild, REST, 45, WORK, 1, REST, 15, DRIVE, 270, REST, 30, DRIVE, 270), false);
        dueBreaches("s above t", row(mild + ";s40;t10", DRIVE, 100, REST, 40, DRIVE, 170, REST, 10, DRIVE, 270), false);
        dueBreaches("t above b", row(mild + ";t60", DRIVE, 100, REST, 15, DRIVE, 170, REST, 45, DRIVE, 270), false);
    }

    private static void ruleTwo() {
        String mild = "c9999;r600;q600;w9999";
        dueBreaches("at e", row(mild, DRIVE, 600), false);
        dueBreaches("one above e", row(mild, DRIVE, 601), false, 600, 2, 1);
        dueBreaches("none may be extended", row(mild + ";x0", DRIVE, 300, WORK, 9, DRIVE, 241), false, 549, 2, 1);
        dueBreaches("each day its own", row(mild + ";x0", DRIVE, 541, REST, 600, DRIVE, 540, REST, 600, DRIVE, 543), false,
                540, 2, 1, 2281 + 540, 2, 3);
        dueBreaches("unknown as drive", row(mild + ";x0", DRIVE, 500, UNKNOWN, 50), true, 540, 2, 10);
        due("at d none is extended", row(mild, DRIVE, 540).day(0, false, 0, 3), 0);
        due("above d one is", row(mild, DRIVE, 541).day(0, false, 0, 3), 1);
        due("e below d serves nobody", row(mild + ";e500", DRIVE, 545).day(0, false, 0, 3), 0);
        due("e below d", row(mild + ";e500", DRIVE, 545).weight(0, false), 5);
    }

    private static void ruleThree() {
        String mild = "c9999;d9999;w9999;y0";
        dueBreaches("in time", row(mild, WORK, 780, REST, 660), false);
        dueBreaches("a minute late", row(mild, WORK, 781, REST, 660), false, 1440, 3, 1);
        dueBreaches("a minute late, however long", row(mild, WORK, 781, REST, 5000, WORK, 1), false, 1440, 3, 1);
        dueBreaches("too short, the row ends", row(mild, WORK, 780, REST, 659), false);
        dueBreaches("at 1440", row(mild, WORK, 1440), false);
        dueBreaches("behind 1440", row(mild, WORK, 1441), false, 1440, 3, 1);
        dueBreaches("no rest at all", row(mild, WORK, 20160), false, 1440, 3, 18720);
        dueBreaches("a second day", row(mild, WORK, 10, REST, 700, WORK, 800, REST, 660, WORK, 5), false, 2150, 3, 20);
        dueBreaches("rest at the beginning is a day", row(mild, REST, 660, WORK, 1441), false, 2100, 3, 1);
        dueBreaches("reduced in time", row("y1", WORK, 900, REST, 540, WORK, 1), false);
        dueBreaches("reduced a minute late", row("y1", WORK, 901, REST, 540, WORK, 1), false, 1440, 3, 1);
        dueBreaches("reduced is due when it lasted q", row("y1", WORK, 900, REST, 659, WORK, 1), false);
        dueBreaches("a law of long rests", row("r2000;q1999", WORK, 1, REST, 2000), false, 1440, 3, 561);
    }

    private static void ruleFour() {
        String mild = "c9999;d9999;r9999;q9999;w100";
        int[] late = {1440, 3};
        dueBreaches("at w", row(mild, DRIVE, 100), false);
        dueBreaches("above w", row(mild, DRIVE, 50, WORK, 7, DRIVE, 52), false, 107, 4, 2);
        dueBreaches("each week its own", row(mild, WORK, 10000, DRIVE, 180), false, late[0], late[1], 8740);
        dueBreaches("each week its own", row(mild, WORK, 9979, DRIVE, 202), false, late[0], late[1], 8741, 10079, 4, 1, 10180, 4, 1);
        dueBreaches("the second alone", row(mild, WORK, 20058, DRIVE, 102), false, late[0], late[1], 18720, 20158, 4, 2);
        dueBreaches("at first", row("c9999;d9999;r9999;q9999", DRIVE, 3361), false, 1440, 3, 1921, 3360, 4, 1);
    }

    private static void breachOrder() {
        // all four at MINUTE 1440: c, d and w are used up there, and the day is late
        WheelHours x = row("c100;d100;e100;w100;r9999;q9999", WORK, 1340, DRIVE, 103);
        dueBreaches("of one minute by rules", x, false, 1440, 1, 3, 1440, 2, 3, 1440, 3, 3, 1440, 4, 3);
        x = row("c100;d90;e90;w80;r9999;q9999", WORK, 1000, DRIVE, 103);
        dueBreaches("by minutes", x, false, 1080, 4, 23, 1090, 2, 13, 1100, 1, 3);
    }

    private static void bestTakes() {
        // taking the one makes two days in time
        WheelHours x = row("", WORK, 800, REST, 600, WORK, 700, REST, 660);
        due("weight", x.weight(0, false), 0);
        dueDays("taken", x, 0, 1400, 0, 0, 2, 1400, 2760, 0, 0, 1);
        tell(x, "y0");
        due("not taken", x.weight(0, false), 1320);
        dueDays("not taken", x, 0, 2760, 0, 0, 1);
        // no one is taken where it helps nothing
        x = row("", WORK, 10, REST, 600, WORK, 10, REST, 660);
        dueDays("none needed", x, 0, 1280, 0, 0, 1);
        // one of three has to be taken, each of the first two would do: the earlier one
        x = row("", WORK, 300, REST, 540, WORK, 10, REST, 540, WORK, 50, REST, 540);
        due("weight", x.weight(0, false), 0);
        dueDays("the earlier one", x, 0, 840, 0, 0, 2, 840, 1980, 0, 0, 0);
        // the last one of the row is taken if that is less LATE
        x = row("", WORK, 1000, REST, 600);
        due("weight", x.weight(0, false), 100);
        dueDays("taken at the row's end", x, 0, 1600, 0, 0, 2);
        // of r and q alike none may be taken
        x = row("q660", WORK, 800, REST, 659, WORK, 700);
        due("weight", x.weight(0, false), 719);
        // the later one if the earlier one needs a DAY to be EXTENDED
        x = row("", DRIVE, 60, REST, 540, DRIVE, 300, REST, 540, DRIVE, 300);
        due("weight", x.weight(0, false), 0);
        dueDays("fewest extended go ahead of the earlier run", x, 0, 1440, 360, 0, 2, 1440, 1740, 300, 0, 0);
        // fewer taken go ahead of fewer extended
        x = row("", DRIVE, 300, REST, 540, DRIVE, 300, WORK, 10);
        dueDays("extended, none taken", x, 0, 1150, 600, 1, 0);
        due("weight", x.weight(0, false), 0);
        due("no card", x.weight(4, false), -1);
        due("no card", x.weight(-1, false), -1);
        for (int far : FAR) due("far", x.weight(far, true), -1);
    }

    private static void bestExtends() {
        String mild = "c9999;w9999;r300;q300;";
        WheelHours x = row(mild + "x1", DRIVE, 560, REST, 300, DRIVE, 580, REST, 300, DRIVE, 580);
        due("the one that saves most", x.weight(0, false), 60);
        dueDays("the earlier of two alike", x, 0, 860, 560, 0, 1, 860, 1740, 580, 1, 1, 1740, 2320, 580, 0, 0);
        tell(x, mild + "x2");
        due("two", x.weight(0, false), 20);
        tell(x, mild + "x3");
        due("three", x.weight(0, false), 0);
        tell(x, mild + "x99");
        due("as many as are needed", x.weight(0, false), 0);
        tell(x, mild + "x0");
        due("none", x.weight(0, false), 100);
        // above e it saves no more than e lets it
        x = row(mild + "x1", DRIVE, 700, REST, 300, DRIVE, 600);
        due("alike", x.weight(0, false), 160);
        due("the earlier", x.day(0, false, 0, 3), 1);
        due("the later", x.day(0, false, 1, 3), 0);
    }

    private static void bestWeeks() {
        // the second day begins with the second week, so both may be extended
        WheelHours x = row("c9999;w9999;x1;r9000;q9000", DRIVE, 600, REST, 9480, DRIVE, 600);
        dueDays("a week each", x, 0, 10080, 600, 1, 1, 10080, 10680, 600, 1, 0);
        x = row("c9999;w9999;x1;r9000;q9000", DRIVE, 600, REST, 9479, DRIVE, 600);
        dueDays("one week", x, 0, 10079, 600, 1, 1, 10079, 10679, 600, 0, 0);
        // a run whose last MINUTE is 10079 ends in the first week: not with the one ahead of it
        x = row("y1", WORK, 8040, REST, 600, WORK, 840, REST, 600, WORK, 800, REST, 600);
        due("two in the first week", x.weight(0, false), 7140 + 1340);
        dueDays("two in the first week", x, 0, 8640, 0, 0, 2, 8640, 11480, 0, 0, 2);
        x = row("y1", WORK, 8041, REST, 600, WORK, 840, REST, 600, WORK, 800, REST, 660);
        due("one in each week", x.weight(0, false), 7141 + 20);
        dueDays("one in each week", x, 0, 8641, 0, 0, 2, 8641, 10081, 0, 0, 2, 10081, 11541, 0, 0, 1);
    }

    private static void onlyTwelve() {
        WheelHours x = row("q10;r1000;y99;d9999;w9999;c9999");
        for (int i = 0; i < 20; i++) addTo(x, 0, WORK, 900, REST, 10);
        // twelve of 910 MINUTES each, then a day of 8 times 910 that nothing ends
        due("weight", x.weight(0, false), 8 * 910 - 1440);
        due("the thirteenth", x.day(0, false, 12, 1), 18200);
        due("ended by", x.day(0, false, 12, 4), 0);
        due("no more", x.day(0, false, 13, 0), -1);
        due("the twelfth", x.day(0, false, 11, 1), 12 * 910);
        due("ended by", x.day(0, false, 11, 4), 2);
        // a full rest among them is none of the twelve
        x = row("q10;r1000;y99;d9999;w9999;c9999", WORK, 5, REST, 1000);
        for (int i = 0; i < 13; i++) addTo(x, 0, WORK, 900, REST, 10);
        due("the first", x.day(0, false, 0, 4), 1);
        due("twelve more", x.day(0, false, 12, 4), 2);
        due("the last", x.day(0, false, 13, 4), 0);
    }

    private static void day() {
        WheelHours x = row("", REST, 700, DRIVE, 100, UNKNOWN, 700, DRIVE, 50, REST, 660);
        dueDays("days", x, 0, 700, 0, 0, 1, 700, 1500, 100, 0, 1, 1500, 2210, 50, 0, 1);
        due("unknown as drive", x.day(0, true, 1, 2), 850);
        due("unknown as drive", x.day(0, true, 1, 1), 2210);
        due("unknown as drive", x.day(0, true, 2, 0), -1);
        due("what 5", x.day(0, false, 0, 5), -1);
        due("what -1", x.day(0, false, 0, -1), -1);
        due("i -1", x.day(0, false, -1, 0), -1);
        due("card", x.day(-1, false, 0, 0), -1);
        due("card", x.day(4, false, 0, 0), -1);
        due("empty", x.day(1, false, 0, 0), -1);
        for (int far : FAR) {
            due("far", x.day(far, false, 0, 0), -1);
            due("far", x.day(0, false, far, 0), -1);
            due("far", x.day(0, false, 0, far), -1);
        }
        dueDays("all rest", row("", REST, 20160), 0, 20160, 0, 0, 1);
        dueDays("all drive", row("", DRIVE, 20160), 0, 20160, 20160, 1, 0);
    }

    private static void may() {
        due("above c", row("", DRIVE, 271).may(0, false), 0);
        due("at c", row("", DRIVE, 270).may(0, false), 0);
        due("left", row("", DRIVE, 269).may(0, false), 1);
        due("a run at the end counts", row("", DRIVE, 270, REST, 45).may(0, false), 270);
        due("one too short does not", row("", DRIVE, 260, REST, 44).may(0, false), 10);
        due("a second part at the end", row("", DRIVE, 100, REST, 15, DRIVE, 100, REST, 30).may(0, false), 270);
        due("work behind it", row("", DRIVE, 270, REST, 45, WORK, 600).may(0, false), 270);
        due("by rule 1 alone", row("d10;w10", DRIVE, 100).may(0, false), 170);
        due("unknown", row("", UNKNOWN, 45).may(0, false), 270);
        due("unknown", row("", UNKNOWN, 45).may(0, true), 225);
        due("card", new WheelHours().may(4, false), -1);
        due("card", new WheelHours().may(-1, false), -1);
        for (int far : FAR) due("far", new WheelHours().may(far, true), -1);
    }

    private static void most() {
        WheelHours x = row("", DRIVE, 300);
        due("over already", x.most(0, false, 45), 0);
        due("over already", x.most(0, false, 46), 1);
        due("over already", x.most(0, false, 45 + 270 + 45 + 1), 271);
        due("part came", row("", DRIVE, 100, REST, 15, DRIVE, 170).most(0, false, 31), 1);
        due("rest goes on to a break", row("", DRIVE, 270, REST, 44).most(0, false, 11), 10);
        due("rest goes on to a second part", row("", DRIVE, 100, REST, 15, DRIVE, 170, REST, 29).most(0, false, 11), 10);
        due("the run at the end is no first part for itself", row("", DRIVE, 270, REST, 20).most(0, false, 25), 0);
        due("but for itself to b", row("", DRIVE, 270, REST, 20).most(0, false, 26), 1);
        due("c of 1: no MINUTE between two parts", row("c1;b9;s1;t1", DRIVE, 1).most(0, false, 10), 1);
        due("c of 1, the first part first", row("c1;b9;s1;t1").most(0, false, 4), 2);
        due("two parts cheaper than one break", row("c2;b9;s1;t1").most(0, false, 11), 6);
        due("two parts dearer than one break", row("c2;b2;s1;t9").most(0, false, 11), 6);
        due("second part dearer than a break", row("c5;b4;s1;t9", DRIVE, 1, REST, 1).most(0, false, 10), 6);
        due("unknown as rest", row("", DRIVE, 270, UNKNOWN, 45).most(0, false, 10), 10);
        due("unknown as drive", row("", DRIVE, 200, UNKNOWN, 45).most(0, true, 40), 25);
        due("2000 at once", row("c9999").most(0, false, 2000), 2000);
        due("no minutes", x.most(0, false, 0), 0);
        due("m", x.most(0, false, -1), -1);
        due("m", x.most(0, false, 2001), -1);
        due("card", x.most(-1, false, 1), -1);
        due("card", x.most(4, false, 1), -1);
        for (int far : FAR) {
            due("far", x.most(far, false, 1), -1);
            due("far", x.most(0, false, far), -1);
        }
    }

    private static void against() {
        WheelHours x = new WheelHours();
        addTo(x, 0, WORK, 100, DRIVE, 100, UNKNOWN, 100);
        addTo(x, 1, WORK, 150, DRIVE, 100);
        addTo(x, 2, WORK, 160, DRIVE, 10);
        due("another vehicle", x.act(3, DRIVE, 300, 1), 0);
        int[][] wants = {{0, 50, 150}, {0, 50, 100}, {30, 50, 50}};
        int[][] trips = {null, {120, 170}, {200, 280}};
        for (int i = 0; i < 3; i++) {
            if (i > 0) due("trip", x.trip(0, trips[i][0], trips[i][1]), true);
            for (int what = 0; what < 3; what++) due("against " + i, x.against(0, what), wants[i][what]);
        }
        due("the other one", x.against(1, 0), 0);
        due("the other one", x.against(1, 1), 0);
        due("the other one", x.against(1, 2), 300);
        due("trip", x.trip(1, 20159, 20160), true);
        due("up to the last MINUTE", x.against(1, 0), 1);
        due("vehicle", x.against(-1, 0), -1);
        due("vehicle", x.against(2, 0), -1);
        due("what", x.against(0, -1), -1);
        due("what", x.against(0, 3), -1);
        for (int far : FAR) {
            due("far", x.against(far, 0), -1);
            due("far", x.against(0, far), -1);
        }
        x = new WheelHours();
        for (int i = 0; i < 19; i++) x.trip(1, 2 * i, 2 * i + 1);
        x.trip(1, 20000, 20160);
        due("every trip", x.against(1, 0), 179);
    }

    private static void look() {
        WheelHours x = row("", WORK, 7, DRIVE, 8, UNKNOWN, 9);
        x.act(0, DRIVE, 10, 1);
        int[][] want = {{1, 7, 0, -1}, {0, 8, 7, 0}, {4, 9, 15, -1}, {0, 10, 24, 1}};
        for (int i = 0; i < 4; i++) {
            for (int what = 0; what < 4; what++) due("look " + i + " " + what, x.look(0, i, what), want[i][what]);
        }
        due("what", x.look(0, 1, 4), -1);
        due("what", x.look(0, 1, -1), -1);
        due("i", x.look(0, 4, 0), -1);
        due("i", x.look(0, -1, 0), -1);
        due("card", x.look(1, 0, 0), -1);
        due("card", x.look(4, 0, 0), -1);
        due("card", x.look(-1, 0, 0), -1);
        for (int far : FAR) {
            due("far", x.look(far, 0, 0), -1);
            due("far", x.look(0, far, 0), -1);
            due("far", x.look(0, 0, far), -1);
        }
    }

    private static void count() {
        WheelHours x = row("", REST, 5, UNKNOWN, 6, DRIVE, 7, REST, 8, WORK, 9, UNKNOWN, 3);
        int[] want = {6, 38, 7, 3, 11};
        for (int what = 0; what < 5; what++) due("count " + what, x.count(0, what), want[what]);
        due("what", x.count(0, 5), -1);
        due("what", x.count(0, -1), -1);
        due("what of none", x.count(-1, 3), -1);
        due("what of none", x.count(-1, -1), -1);
        due("card", x.count(4, 0), -1);
        due("card", x.count(-2, 0), -1);
        for (int far : FAR) {
            due("far", x.count(far, 0), -1);
            due("far", x.count(0, far), -1);
            due("far", x.count(-1, far), -1);
        }
    }

    private static String stateOf(WheelHours x) {
        StringBuilder state = new StringBuilder();
        for (int i = 0; i < 11; i++) state.append(x.rule("cbstdexrqyw".charAt(i))).append(' ');
        for (int card = -1; card < 4; card++) {
            for (int what = 0; what < 5; what++) state.append(x.count(card, what)).append(' ');
            for (int i = 0; i < 60; i++) for (int what = 0; what < 4; what++) state.append(x.look(card, i, what)).append(' ');
        }
        for (int what = 0; what < 3; what++) state.append(x.against(0, what)).append(' ').append(x.against(1, what)).append(' ');
        return state.toString();
    }

    private static void refusedChangesNothing() {
        WheelHours x = row("c100;x1", DRIVE, 300, REST, 600, UNKNOWN, 400, FERRY, 20, DRIVE, 50);
        x.trip(0, 20, 40);
        feed(x, "some bytes");
        String before = stateOf(x);
        x.act(0, 9, 5, 0);
        x.act(0, 0, 5, 7);
        x.act(0, 2, 20160, 0);
        x.put(0, 0, 0, 9);
        x.put(0, 0, 7, 0);
        x.trip(0, 30, 50);
        x.trip(1, 30, 20161);
        x.law(21);
        due("refused", stateOf(x).equals(before), true);
        for (int drive = 0; drive < 2; drive++) {
            x.breaches(0, drive == 1);
            x.weight(0, drive == 1);
            x.day(0, drive == 1, 0, 0);
            x.most(0, drive == 1, 2000);
            x.may(0, drive == 1);
        }
        due("asked", stateOf(x).equals(before), true);
    }
}
