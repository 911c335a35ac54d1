import java.nio.ByteBuffer;
import java.nio.charset.StandardCharsets;
import java.util.Arrays;

/** What the tests with answers reckoned by hand have in common. */
abstract class Checks {
    static final int NONE = -1;
    static final int DRIVE = 0;
    static final int WORK = 1;
    static final int REST = 2;
    static final int FERRY = 3;
    static final int UNKNOWN = 4;
    static final String LETTERS = "cbstdexrqyw";
    static final int[] AT_FIRST = {270, 45, 15, 30, 540, 600, 2, 660, 540, 3, 3360};
    static final int[] FAR = {Integer.MIN_VALUE, Integer.MIN_VALUE + 1, -65536, -256, -100, -2,
        65536, 1000000, Integer.MAX_VALUE - 1, Integer.MAX_VALUE};

    private static int wrong = 0;
    private static int asked = 0;

    static void due(String what, long got, long want) {
        asked++;
        if (got != want) {
            wrong++;
            System.out.println(what + ": answered " + got + ", due is " + want);
        }
    }

    static void due(String what, boolean got, boolean want) {
        due(what, got ? 1 : 0, want ? 1 : 0);
    }

    static void end() {
        System.out.println(wrong == 0 ? "all " + asked + " answers are as due" : wrong + " answers are not as due");
        if (wrong != 0) System.exit(1);
    }

    /** The text comes behind the tape, with bytes 0 up to the next twenty: how many the tape has. */
    static int feed(WheelHours x, String text) {
        byte[] bytes = Arrays.copyOf(text.getBytes(StandardCharsets.ISO_8859_1), (text.length() + 19) / 20 * 20);
        ByteBuffer ints = ByteBuffer.wrap(bytes);
        int size = x.count(NONE, 0);
        while (ints.remaining() >= 20) {
            size = x.feed(ints.getInt(), ints.getInt(), ints.getInt(), ints.getInt(), ints.getInt());
        }
        return size;
    }

    static int tell(WheelHours x, String text) {
        feed(x, text);
        return x.law(text.length());
    }

    /** An object with this law and, on card 0, these acts: pairs of kind and minutes. */
    static WheelHours row(String law, int... acts) {
        WheelHours x = new WheelHours();
        if (!law.isEmpty()) due("law " + law, tell(x, law), 0);
        addTo(x, 0, acts);
        return x;
    }

    static void addTo(WheelHours x, int card, int... acts) {
        for (int i = 0; i < acts.length; i += 2) {
            int number = x.count(card, 0);
            due("act " + i / 2, x.act(card, acts[i], acts[i + 1], 0), number);
        }
    }

    /** All breaches of card 0: minute, rule and how many of each, in a row. */
    static void dueBreaches(String name, WheelHours x, boolean drive, int... want) {
        due(name + ", breaches", x.breaches(0, drive), want.length / 3);
        for (int i = 0; i < want.length; i++) {
            due(name + ", breach " + i / 3 + " what " + i % 3, x.breach(0, drive, i / 3, i % 3), want[i]);
        }
        due(name + ", breach behind the last", x.breach(0, drive, want.length / 3, 0), NONE);
    }

    /** All days of card 0: beginning, end, drive, extended and ended by of each, in a row. */
    static void dueDays(String name, WheelHours x, int... want) {
        for (int i = 0; i < want.length; i++) {
            due(name + ", day " + i / 5 + " what " + i % 5, x.day(0, false, i / 5, i % 5), want[i]);
        }
        due(name + ", day behind the last", x.day(0, false, want.length / 5, 0), NONE);
    }

    /** The ends of all days of card 0. */
    static void dueEnds(String name, WheelHours x, int weight, int... want) {
        due(name + ", weight", x.weight(0, false), weight);
        for (int i = 0; i < want.length; i++) {
            due(name + ", end of day " + i, x.day(0, false, i, 1), want[i]);
        }
        due(name + ", day behind the last", x.day(0, false, want.length, 1), NONE);
    }

    /** Whether each day of card 0 is extended. */
    static void dueExtended(String name, WheelHours x, int weight, int... want) {
        due(name + ", weight", x.weight(0, false), weight);
        for (int i = 0; i < want.length; i++) {
            due(name + ", extended day " + i, x.day(0, false, i, 3), want[i]);
        }
        due(name + ", day behind the last", x.day(0, false, want.length, 3), NONE);
    }
}
