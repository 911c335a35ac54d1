import java.nio.charset.StandardCharsets;
import java.util.Arrays;
import java.util.Random;

/** Runs of calls drawn from a fixed seed: WheelHours and Oracle answer each one alike. */
public final class OracleTest {
    private static int wrong = 0;
    private static long calls = 0;

    private final Random random;
    private final WheelHours program = new WheelHours();
    private final Oracle oracle = new Oracle();
    private final StringBuilder story = new StringBuilder();

    private OracleTest(long seed) {
        random = new Random(seed);
    }

    public static void main(String[] args) {
        for (int seed = 0; seed < 2500 && wrong < 10; seed++) new OracleTest(seed).mixedRun();
        for (int seed = 0; seed < 1500 && wrong < 10; seed++) new OracleTest(seed).fortnight();
        for (int seed = 0; seed < 1500 && wrong < 10; seed++) new OracleTest(seed).shortSpells();
        for (int seed = 0; seed < 600 && wrong < 10; seed++) new OracleTest(seed).anyLaw();
        for (int seed = 0; seed < 600 && wrong < 10; seed++) new OracleTest(seed).likeOnes();
        for (int seed = 0; seed < 400 && wrong < 10; seed++) new OracleTest(seed).vehicles();
        new OracleTest(0).crowdedVehicles();
        for (int seed = 0; seed < 4000 && wrong < 10; seed++) new OracleTest(seed).texts();
        System.out.println(wrong == 0 ? "all " + calls + " answers are as due" : wrong + " answers are not as due");
        if (wrong != 0) System.exit(1);
    }

    private void due(String call, int got, int want) {
        calls++;
        if (story.length() < 20000) story.append(call).append(" = ").append(want).append('\n');
        if (got != want && wrong++ < 10) {
            System.out.println(story + "^ answered " + got + ", due is " + want + "\n");
        }
    }

    private void due(String call, boolean got, boolean want) {
        due(call, got ? 1 : 0, want ? 1 : 0);
    }

    private int of(int... some) {
        return some[random.nextInt(some.length)];
    }

    private int to(int least, int most) {
        return least + random.nextInt(most - least + 1);
    }

    /** Mostly a card, seldom none. */
    private int card() {
        return random.nextInt(40) == 0 ? of(-2, 4, 5, Integer.MIN_VALUE, Integer.MAX_VALUE) : random.nextInt(4);
    }

    private void tell(String text) {
        byte[] bytes = Arrays.copyOf(text.getBytes(StandardCharsets.ISO_8859_1), 80);
        law(0);
        for (int i = 0; i < text.length(); i += 20) feed(bytes, i);
        law(text.length());
    }

    private void feed(byte[] bytes, int at) {
        int[] n = new int[5];
        for (int i = 0; i < 5; i++) n[i] = java.nio.ByteBuffer.wrap(bytes, at + 4 * i, 4).getInt();
        due("feed" + Arrays.toString(n), program.feed(n[0], n[1], n[2], n[3], n[4]), oracle.feed(n));
    }

    private void law(int n) {
        due("law(" + n + ")", program.law(n), oracle.law(n));
        for (int i = 0; i < Oracle.LETTERS.length(); i++) {
            int letter = Oracle.LETTERS.charAt(i);
            due("rule(" + letter + ")", program.rule(letter), oracle.rule(letter));
        }
    }

    private void act(int card, int kind, int minutes, int vehicle) {
        due("act(" + card + ", " + kind + ", " + minutes + ", " + vehicle + ")",
                program.act(card, kind, minutes, vehicle), oracle.act(card, kind, minutes, vehicle));
    }

    private void put(int card, int i, int kind, int vehicle) {
        due("put(" + card + ", " + i + ", " + kind + ", " + vehicle + ")",
                program.put(card, i, kind, vehicle), oracle.put(card, i, kind, vehicle));
    }

    private void trip(int vehicle, int from, int to) {
        due("trip(" + vehicle + ", " + from + ", " + to + ")", program.trip(vehicle, from, to), oracle.trip(vehicle, from, to));
    }

    private void most(int card, boolean drive, int m) {
        due("most(" + card + ", " + drive + ", " + m + ")", program.most(card, drive, m), oracle.most(card, drive, m));
    }

    private void judge(int card, boolean drive) {
        String who = "(" + card + ", " + drive;
        java.util.List<int[]> breaches = oracle.isCard(card) ? oracle.allBreaches(card, drive) : new java.util.ArrayList<>();
        int none = oracle.isCard(card) ? 0 : -1;
        due("breaches" + who + ")", program.breaches(card, drive), none < 0 ? -1 : breaches.size());
        for (int i = -1; i <= breaches.size(); i++) {
            for (int what = -1; what <= 3; what++) {
                boolean there = i >= 0 && i < breaches.size() && what >= 0 && what < 3;
                due("breach" + who + ", " + i + ", " + what + ")", program.breach(card, drive, i, what), there ? breaches.get(i)[what] : -1);
            }
        }
        Oracle.Choice best = oracle.isCard(card) ? oracle.best(card, drive) : new Oracle.Choice();
        due("weight" + who + ")", program.weight(card, drive), none < 0 ? -1 : best.weight);
        for (int i = -1; i <= best.days.size(); i++) {
            for (int what = -1; what <= 5; what++) {
                boolean there = i >= 0 && i < best.days.size() && what >= 0 && what < 5;
                due("day" + who + ", " + i + ", " + what + ")", program.day(card, drive, i, what), there ? best.days.get(i)[what] : -1);
            }
        }
        due("may" + who + ")", program.may(card, drive), oracle.may(card, drive));
    }

    private void lookAt(int card) {
        for (int what = -1; what <= 5; what++) {
            due("count(" + card + ", " + what + ")", program.count(card, what), oracle.count(card, what));
            int i = to(-1, 12);
            due("look(" + card + ", " + i + ", " + what + ")", program.look(card, i, what), oracle.look(card, i, what));
        }
    }

    private int usualMinutes() {
        return random.nextInt(60) == 0 ? of(0, -1, 20160, 20161, 9000, 5000)
                : of(1, 5, 14, 15, 16, 29, 30, 31, 44, 45, 46, 90, 120, 269, 270, 271, 300, 539, 540, 541, 600, 659, 660, 661, 800, 1440);
    }

    /** All calls, with the law as at first or a little off it. */
    private void mixedRun() {
        for (int i = 0; i < 60; i++) {
            int card = card();
            switch (random.nextInt(12)) {
                case 0: tell(someLaw()); break;
                case 1: put(card, to(-1, 12), to(-1, 5), to(-1, 2)); break;
                case 2: trip(to(-1, 2), to(-5, 3000), to(-5, 3000)); break;
                case 3: judge(card, random.nextBoolean()); break;
                case 4: lookAt(random.nextInt(5) == 0 ? -1 : card); break;
                default: act(card, random.nextInt(30) == 0 ? of(-1, 5) : to(0, 4), usualMinutes(), random.nextInt(20) == 0 ? of(-1, 2) : to(0, 1)); break;
            }
        }
        for (int card = 0; card < 4; card++) judge(card, random.nextBoolean());
        if (random.nextInt(10) == 0) most(card(), random.nextBoolean(), of(-1, 0, 1, 50, 270, 316, 700, 2000, 2001));
    }

    private String someLaw() {
        StringBuilder text = new StringBuilder();
        for (int n = to(1, 4); n > 0; n--) {
            switch (random.nextInt(6)) {
                case 0: text.append("x").append(of(0, 1, 2, 3, 99)); break;
                case 1: text.append("y").append(of(0, 1, 2, 3, 99)); break;
                case 2: text.append("d").append(of(30, 100, 540)).append(";e").append(of(50, 120, 300, 600)); break;
                case 3: text.append("r").append(of(45, 300, 660)).append(";q").append(of(15, 30, 100, 540)); break;
                case 4: text.append("w").append(of(1, 100, 500, 3360)); break;
                default: text.append("c").append(of(1, 30, 270)).append(";b").append(of(10, 45, 60)); break;
            }
            if (n > 1) text.append(';');
        }
        return text.toString();
    }

    /** A card full to its end, so that WEEKS, many DAYS and many RUNS to be taken come together. */
    private void fortnight() {
        int q = of(60, 200, 540);
        int r = q + of(0, 1, 40, 120);
        int d = of(50, 200, 400, 540);
        tell("x" + of(0, 1, 2, 3) + ";y" + of(0, 1, 2, 3, 4, 99) + ";q" + q + ";r" + r + ";d" + d + ";e" + (d + of(-10, 0, 1, 60)) + ";w" + of(800, 3360));
        int left = 20160;
        int long12 = 0;
        int many = random.nextInt(12) == 0 ? 14 : 8;
        for (int i = 0; i < 60 && left > 0; i++) {
            boolean rest = i % 2 == 1;
            int minutes = rest ? of(q - 1, q, q, q + 1, r - 1, r, r, r + 50, 30, 45) : of(d - 1, d, d + 1, d + 30, d + 60, d + 100, 1200, 300);
            if (rest && minutes >= q && minutes < r && long12++ >= many) minutes = r;
            minutes = Math.min(Math.max(1, minutes), left);
            if (random.nextInt(9) == 0 && left > 10080 && left - 10080 < 1500) minutes = left - 10080;
            act(1, rest ? of(2, 2, 2, 2, 4) : of(0, 0, 0, 1), minutes, 0);
            left -= minutes;
        }
        judge(1, false);
        if (random.nextInt(3) == 0) judge(1, true);
    }

    /** Laws with numbers of any size to each other, and rows of lengths about them. */
    private void anyLaw() {
        boolean small = random.nextBoolean();
        tell("c" + to(1, 400) + ";b" + to(1, 90) + ";s" + to(1, 90) + ";t" + to(1, 90) + ";d" + to(1, 600) + ";e" + to(1, 900)
                + ";x" + of(0, 1, 2, 3, 5, 99) + ";y" + of(0, 1, 2, 3, 5, 99)
                + ";r" + to(1, small ? 60 : 900) + ";q" + to(1, small ? 60 : 700) + ";w" + to(1, 5000));
        int acts = to(1, 60);
        for (int i = 0; i < acts && oracle.count(3, 1) < 20160; i++) {
            int left = 20160 - oracle.count(3, 1);
            int minutes = oracle.num((char) of('r', 'q', 'q', 'd', 'c', 'b', 's', 't')) + to(-1, 1);
            if (random.nextInt(3) == 0) minutes = of(1, 10, 60, 1440, to(1, 300));
            if (random.nextInt(15) == 0 && left > 10080) minutes = left - 10080 + to(-1, 1);
            act(3, i % 2 == 0 ? of(0, 0, 0, 0, 1, 4) : of(2, 2, 2, 4, 3), Math.max(1, Math.min(minutes, left)), 1);
        }
        judge(3, false);
        judge(3, true);
        lookAt(3);
    }

    /** Few lengths and much room, so that many choices weigh the same and the later rules of THE BEST decide. */
    private void likeOnes() {
        tell("c9999;q10;r1000;y" + of(2, 3, 99) + ";x" + of(1, 2, 99) + ";d" + of(100, 200) + ";e" + of(200, 250, 300));
        int many = to(4, 9);
        int far = random.nextInt(3) == 0 ? to(0, many) : -1;
        for (int i = 0; i < many; i++) {
            act(2, 0, of(50, 100, 100, 150, 200), 0);
            act(2, 2, i == far ? of(9000, 9500) : 10, 0);
        }
        act(2, 0, of(50, 100, 200), 1);
        judge(2, false);
    }

    /** RULE 1 and what may be driven from now, with small numbers in the law. */
    private void shortSpells() {
        tell("c" + to(1, 8) + ";b" + to(1, 12) + ";s" + to(1, 7) + ";t" + to(1, 9));
        for (int i = 0; i < 14; i++) {
            act(0, of(0, 0, 2, 2, 2, 1, 3, 4), to(1, random.nextInt(3) == 0 ? 14 : 5), 0);
            boolean drive = random.nextBoolean();
            due("may(0, " + drive + ")", program.may(0, drive), oracle.may(0, drive));
            for (int k = 0; k < 4; k++) most(0, drive, to(0, 60));
        }
        judge(0, false);
        judge(0, true);
    }

    private void vehicles() {
        for (int i = 0; i < 120; i++) {
            if (random.nextInt(3) == 0) {
                int from = to(0, 4000);
                trip(to(0, 1), from, from + of(1, 2, 50, 200));
            } else {
                act(to(0, 3), of(0, 0, 1, 2, 4), of(1, 3, 40, 100, 500), to(0, 1));
            }
        }
        holdAgainst();
    }

    /** As many borders as there can be, no two at one MINUTE, the last one at the end of all. */
    private void crowdedVehicles() {
        for (int i = 0; i < 60; i++) {
            for (int card = 0; card < 4; card++) act(card, i % 2, i == 0 ? card + 1 : 40, card / 3);
        }
        for (int i = 0; i < 19; i++) trip(0, 40 * i + 10, 40 * i + 20);
        trip(0, 20000, 20160);
        holdAgainst();
    }

    private void holdAgainst() {
        for (int vehicle = -1; vehicle <= 2; vehicle++) {
            for (int what = -1; what <= 3; what++) {
                due("against(" + vehicle + ", " + what + ")", program.against(vehicle, what), oracle.against(vehicle, what));
            }
        }
    }

    /** Texts of the letters of a law and a few others, most of them with a FAULT. */
    private void texts() {
        StringBuilder text = new StringBuilder();
        for (int n = to(0, 12); n > 0; n--) {
            text.append(random.nextInt(12) == 0 ? (char) to(0, 255) : "cbstdexrqyw".charAt(random.nextInt(11)));
            for (int digits = random.nextInt(15) == 0 ? of(0, 5) : to(1, 4); digits > 0 && text.length() < 70; digits--) {
                text.append((char) of('0', '0', '1', '9', '5'));
            }
            if (n > 1) text.append(random.nextInt(15) == 0 ? (char) to(0, 255) : ';');
        }
        tell(text.substring(0, Math.min(80, text.length())));
        byte[] bytes = new byte[80];
        random.nextBytes(bytes);
        for (int n = to(0, 5); n > 0; n--) feed(bytes, 0);
        law(of(-1, 0, 1, 20, 21, 80, 81, Integer.MIN_VALUE, Integer.MAX_VALUE));
        due("count(-1, 0)", program.count(-1, 0), oracle.count(-1, 0));
        int letter = to(-300, 600);
        due("rule(" + letter + ")", program.rule(letter), oracle.rule(letter));
    }
}
