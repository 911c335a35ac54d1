import java.util.ArrayList;
import java.util.List;

/** What holds of every call: refused ones change nothing, no arguments make one throw, objects are apart, 512 calls are fine. */
public final class RefusalTest extends Checks {
    private static final int[] EDGES = {Integer.MIN_VALUE, Integer.MIN_VALUE + 1, -20160, -256, -2, -1, 0, 1, 2, 3, 4, 5, 11, 12, 13, 19, 20,
        21, 29, 30, 31, 59, 60, 61, 79, 80, 81, 99, 119, 255, 256, 999, 1440, 2000, 2001, 9999, 10079, 10080, 10081, 20159, 20160, 20161,
        Integer.MAX_VALUE - 1, Integer.MAX_VALUE};
    private static final int STATES = 6;

    private interface Call {
        long on(WheelHours x);
    }

    public static void main(String[] args) {
        refusedChangesNothing();
        refusedWhereAllIsFull();
        askingChangesNothing();
        anyArguments();
        allMemoryIsItsOwn();
        fiveHundredAndTwelveCalls();
        end();
    }

    /** The same calls each time, so that two objects of one number are alike. */
    private static WheelHours built(int state) {
        WheelHours x = new WheelHours();
        if (state == 1) {
            tell(x, "c100;x1");
            addTo(x, 0, DRIVE, 300, REST, 600, UNKNOWN, 400, FERRY, 20, DRIVE, 50);
            addTo(x, 3, WORK, 20, DRIVE, 50);
            x.trip(0, 20, 40);
            x.trip(1, 0, 10);
            feed(x, "c7;b8;x9;y10;w11");
        } else if (state >= 2) {
            tell(x, state == 2 ? "c1;b1;s1;t1;d1;e1;x0;r1;q1;y0;w1"
                    : state == 3 ? "c9999;b9999;s9999;t9999;d9999;e9999;x99;r9999;q9999;y99;w9999"
                    : state == 4 ? "c1;b3;s1;t1;d1;e9999;x99;r400;q1;y99;w1" : "x99;y99;r9999;q336;d100;e200");
            for (int card = 0; card < 4; card++) {
                for (int i = 0; i < 60; i++) x.act(card, state == 5 ? i % 2 * 2 : (i + card) % 5, 336, i % 2);
            }
            for (int i = 0; i < 20; i++) due("trip", x.trip(0, 1008 * i, 1008 * i + 500) && x.trip(1, 1008 * i, 1008 * i + 1008), true);
            for (int i = 0; i < 4; i++) feed(x, "c7;b8;x9;y10;w11;e12");
        }
        return x;
    }

    /** All that can be seen of an object; its tape is used up. */
    private static String whole(WheelHours x) {
        StringBuilder seen = new StringBuilder();
        for (int letter = 0; letter < 256; letter++) seen.append(x.rule(letter)).append(' ');
        for (int card = -1; card < 4; card++) {
            for (int what = 0; what < 5; what++) seen.append(x.count(card, what)).append(' ');
            for (int i = 0; i < 60; i++) {
                for (int what = 0; what < 4; what++) seen.append(x.look(card, i, what)).append(' ');
            }
            for (int drive = 0; drive < 2; drive++) {
                seen.append(x.breaches(card, drive == 1)).append(' ').append(x.weight(card, drive == 1)).append(' ');
                seen.append(x.may(card, drive == 1)).append(' ').append(x.most(card, drive == 1, 2000)).append(' ');
            }
        }
        for (int what = 0; what < 3; what++) seen.append(x.against(0, what)).append(' ').append(x.against(1, what)).append(' ');
        for (int minute = 0; minute < 20160; minute += 1008) {
            // only where there is room a TRIP can be told
            for (int vehicle = 0; vehicle < 2; vehicle++) seen.append(x.trip(vehicle, minute, minute + 1)).append(' ');
        }
        seen.append(x.law(16)).append(' ');
        for (int i = 0; i < LETTERS.length(); i++) seen.append(x.rule(LETTERS.charAt(i))).append(' ');
        return seen.toString();
    }

    private static void dueRefused(int state, int number, Call call, long answer) {
        WheelHours x = built(state);
        due("state " + state + ", refused call " + number, call.on(x), answer);
        due("state " + state + " stays behind call " + number, whole(x).equals(whole(built(state))), true);
    }

    /** Calls that are refused in state 1, as numbers with their due answer. */
    private static List<Call> refusedOnes() {
        List<Call> calls = new ArrayList<>();
        int[] far = {Integer.MIN_VALUE, -1, 4, Integer.MAX_VALUE};
        for (int card : far) {
            calls.add(x -> x.act(card, WORK, 1, 0));
            calls.add(x -> x.put(card, 0, WORK, 0) ? 1 : NONE);
        }
        for (int vehicle : new int[] {Integer.MIN_VALUE, -1, 2, Integer.MAX_VALUE}) {
            calls.add(x -> x.act(0, DRIVE, 1, vehicle));
            calls.add(x -> x.put(0, 1, DRIVE, vehicle) ? 1 : NONE);
            calls.add(x -> x.trip(vehicle, 100, 200) ? 1 : NONE);
        }
        for (int kind : new int[] {Integer.MIN_VALUE, -1, 5, Integer.MAX_VALUE}) {
            calls.add(x -> x.act(0, kind, 1, 0));
            calls.add(x -> x.put(0, 1, kind, 0) ? 1 : NONE);
        }
        for (int i : new int[] {Integer.MIN_VALUE, -1, 5, 60, Integer.MAX_VALUE}) calls.add(x -> x.put(0, i, WORK, 0) ? 1 : NONE);
        for (int minutes : new int[] {Integer.MIN_VALUE, -1, 0, 20160 - 1369, 20160, 20161, Integer.MAX_VALUE}) {
            calls.add(x -> x.act(0, WORK, minutes, 0));
        }
        int[][] trips = {{-1, 5}, {20160, 20161}, {50, 50}, {60, 50}, {39, 41}, {19, 21}, {0, 20160}, {Integer.MIN_VALUE, Integer.MAX_VALUE},
            {Integer.MAX_VALUE, Integer.MIN_VALUE}, {Integer.MIN_VALUE, 10}, {50, Integer.MAX_VALUE}};
        for (int[] t : trips) calls.add(x -> x.trip(0, t[0], t[1]) ? 1 : NONE);
        for (int n : new int[] {Integer.MIN_VALUE, -1, 21, 80, Integer.MAX_VALUE}) calls.add(x -> x.law(n));
        return calls;
    }

    /** "A call that is refused (NONE, false) changes nothing but the tape, where it is told." */
    private static void refusedChangesNothing() {
        List<Call> calls = refusedOnes();
        for (int i = 0; i < calls.size(); i++) dueRefused(1, i, calls.get(i), NONE);
        WheelHours x = built(1);
        for (Call call : calls) call.on(x);
        due("all of them", whole(x).equals(whole(built(1))), true);
    }

    private static void refusedWhereAllIsFull() {
        for (int state = 2; state < STATES; state++) {
            for (int card = 0; card < 4; card++) {
                int which = card;
                dueRefused(state, card, x -> x.act(which, REST, 1, 0), NONE);
            }
            dueRefused(state, 4, x -> x.feed(1, 2, 3, 4, 5), NONE);
            dueRefused(state, 5, x -> x.law(81), NONE);
            dueRefused(state, 6, x -> x.trip(0, 500, 501) ? 1 : 0, 0);
            dueRefused(state, 7, x -> x.trip(1, 0, 1) ? 1 : 0, 0);
            dueRefused(state, 8, x -> x.put(0, 60, REST, 0) ? 1 : 0, 0);
        }
    }

    private static void askAll(WheelHours x, int a, int b) {
        for (int drive = 0; drive < 2; drive++) {
            x.breaches(a, drive == 1);
            x.weight(a, drive == 1);
            x.may(a, drive == 1);
            x.most(a, drive == 1, b);
            for (int c = -1; c < 6; c++) {
                x.breach(a, drive == 1, b, c);
                x.day(a, drive == 1, b, c);
            }
        }
        x.rule(a);
        x.against(a, b);
        x.count(a, b);
        for (int what = -1; what < 5; what++) x.look(a, b, what);
    }

    private static void askingChangesNothing() {
        for (int state = 0; state < STATES; state++) {
            WheelHours x = built(state);
            for (int a : EDGES) {
                for (int b : EDGES) askAll(x, a, b);
            }
            due("asked in state " + state, whole(x).equals(whole(built(state))), true);
        }
    }

    private static void dueWithin(String what, long got, boolean known, long most) {
        if (!known) due(what, got, NONE);
        else due(what + " within its bounds", got >= NONE && got <= most, true);
    }

    private static boolean isIn(int n, int least, int most) {
        return n >= least && n <= most;
    }

    /** "No call may ever throw or fail to end, for any arguments in any state" */
    private static void anyArguments() {
        for (int state = 0; state < STATES; state++) {
            WheelHours x = built(state);
            for (int a : EDGES) {
                boolean card = isIn(a, 0, 3);
                dueWithin("may", x.may(a, true), card, 9999);
                dueWithin("breaches", x.breaches(a, false), card, 200);
                dueWithin("weight", x.weight(a, true), card, 2 * 20160);
                for (int b : EDGES) {
                    dueWithin("most", x.most(a, false, b), card && isIn(b, 0, 2000), 2000);
                    dueWithin("against", x.against(a, b), isIn(a, 0, 1) && isIn(b, 0, 2), 20160);
                    dueWithin("count", x.count(a, b), card && isIn(b, 0, 4) || a == NONE && isIn(b, 0, 2), 20160);
                    for (int c : EDGES) {
                        dueWithin("breach", x.breach(a, true, b, c), card && isIn(b, 0, 199) && isIn(c, 0, 2), 20160);
                        dueWithin("day", x.day(a, false, b, c), card && isIn(b, 0, 30) && isIn(c, 0, 4), 20160);
                        dueWithin("look", x.look(a, b, c), card && isIn(b, 0, 59) && isIn(c, 0, 3), 20160);
                    }
                }
            }
        }
        changingOnesWithAnyArguments();
    }

    private static void changingOnesWithAnyArguments() {
        for (int state = 0; state < STATES; state++) {
            for (int a : EDGES) {
                WheelHours x = built(state);
                for (int b : EDGES) {
                    for (int c : EDGES) {
                        boolean known = isIn(a, 0, 3) && isIn(b, 0, 4) && isIn(c, 1, 20160);
                        dueWithin("act", x.act(a, b, c, 2), known && b != DRIVE, 59);
                        dueWithin("act", x.act(a, b, c, 1), known, 59);
                        boolean there = isIn(a, 0, 3) && b >= 0 && b < x.count(a, 0) && isIn(c, 0, 4);
                        due("put", x.put(a, b, c, 1), there);
                        if (!isIn(a, 0, 1) || b < 0 || c > 20160 || b >= c) due("trip", x.trip(a, b, c), false);
                        else x.trip(a, b, c);
                    }
                    boolean room = x.count(NONE, 0) <= 60;
                    due("feed", x.feed(a, b, a ^ b, b, a) != NONE, room);
                }
                int size = x.count(NONE, 0);
                due("law", x.law(a) != NONE, a >= 0 && a <= size);
                for (int card = 0; card < 4; card++) askAll(x, card, 0);
            }
        }
    }

    /** "All memory is the reckoner's own." */
    private static void allMemoryIsItsOwn() {
        WheelHours one = new WheelHours();
        WheelHours other = new WheelHours();
        due("law of one", tell(one, "c100"), 0);
        addTo(one, 0, DRIVE, 101);
        due("trip of one", one.trip(0, 5, 10), true);
        feed(one, "b1");
        due("no law", other.rule('c'), 270);
        due("no acts", other.count(0, 0), 0);
        due("no trips", other.count(NONE, 1), 0);
        due("no bytes", other.count(NONE, 0), 0);
        addTo(other, 0, DRIVE, 300);
        due("its own breach", other.breach(0, false, 0, 2), 30);
        due("its own breach", one.breach(0, false, 0, 2), 1);
        due("its own breach again", other.breach(0, false, 0, 2), 30);
        due("a third is new", new WheelHours().count(0, 0), 0);
        due("a third has the law at first", new WheelHours().rule('c'), 270);
    }

    /** "An object is used for at most 512 calls after it has been made" */
    private static void fiveHundredAndTwelveCalls() {
        WheelHours x = new WheelHours();
        int calls = 0;
        for (int i = 0; i < 60; i++) {
            for (int card = 0; card < 4; card++, calls++) due("act", x.act(card, i % 2 * 2, 336, card % 2), i);
        }
        for (int i = 0; i < 20; i++, calls += 2) {
            due("trip", x.trip(0, 1008 * i, 1008 * i + 336) && x.trip(1, 1008 * i, 1008 * i + 336), true);
        }
        for (; calls < 510; calls++) due("weight", x.weight(calls % 4, calls % 3 == 0), 18720 + 10080 - 600);
        due("call 511", x.against(0, 1), 10080);
        due("call 512", x.breaches(3, false), 30 + 1 + 1 + 2);
    }
}
