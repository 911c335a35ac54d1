import java.util.ArrayList;
import java.util.Arrays;
import java.util.List;

/**
 * The document once more, slow and minute by minute, sharing nothing with WheelHours: every set of
 * RUNS taken and of DAYS EXTENDED is tried, and every way to spend the next MINUTES.
 */
final class Oracle {
    static final String LETTERS = "cbstdexrqyw";
    static final int[] FIRST = {270, 45, 15, 30, 540, 600, 2, 660, 540, 3, 3360};

    final List<Integer> tape = new ArrayList<>();
    int[] law = FIRST.clone();
    /** Of each card its acts: kind, minutes, vehicle. */
    final List<List<int[]>> cards = new ArrayList<>();
    final List<List<int[]>> trips = new ArrayList<>();

    Oracle() {
        for (int i = 0; i < 4; i++) cards.add(new ArrayList<>());
        for (int i = 0; i < 2; i++) trips.add(new ArrayList<>());
    }

    int num(char letter) {
        return law[LETTERS.indexOf(letter)];
    }

    int feed(int... five) {
        if (tape.size() + 20 > 80) return -1;
        for (int n : five) {
            for (byte b : java.nio.ByteBuffer.allocate(4).putInt(n).array()) tape.add(b & 255);
        }
        return tape.size();
    }

    int law(int n) {
        if (n < 0 || n > tape.size()) return -1;
        StringBuilder text = new StringBuilder();
        for (int i = 0; i < n; i++) text.append((char) (int) tape.get(i));
        tape.clear();
        int[] now = FIRST.clone();
        int i = 0;
        while (true) {
            if (i >= n || LETTERS.indexOf(text.charAt(i)) < 0) return 100 + i;
            int letter = LETTERS.indexOf(text.charAt(i));
            i++;
            String digits = "";
            int first = i;
            while (i < n && "0123456789".indexOf(text.charAt(i)) >= 0) {
                if (digits.length() == 4) return 300 + i;
                digits += text.charAt(i++);
            }
            if (digits.isEmpty()) return 200 + i;
            int number = Integer.parseInt(digits);
            boolean week = "xy".indexOf(LETTERS.charAt(letter)) >= 0;
            if (week ? number > 99 : number < 1) return 400 + first;
            now[letter] = number;
            if (i == n) break;
            if (text.charAt(i) != ';') return 500 + i;
            i++;
        }
        law = now;
        return 0;
    }

    int rule(int letter) {
        for (int i = 0; i < LETTERS.length(); i++) if (LETTERS.charAt(i) == letter) return law[i];
        return -1;
    }

    static boolean isKind(int kind, int vehicle) {
        return kind >= 0 && kind <= 4 && (kind != 0 || vehicle == 0 || vehicle == 1);
    }

    boolean isCard(int card) {
        return card >= 0 && card < 4;
    }

    int total(int card) {
        int sum = 0;
        for (int[] a : cards.get(card)) sum += a[1];
        return sum;
    }

    int act(int card, int kind, int minutes, int vehicle) {
        if (!isCard(card) || !isKind(kind, vehicle) || minutes < 1 || minutes > 20160) return -1;
        if (cards.get(card).size() == 60 || total(card) + minutes > 20160) return -1;
        cards.get(card).add(new int[] {kind, minutes, kind == 0 ? vehicle : -1});
        return cards.get(card).size() - 1;
    }

    boolean put(int card, int i, int kind, int vehicle) {
        if (!isCard(card) || i < 0 || i >= cards.get(card).size() || !isKind(kind, vehicle)) return false;
        cards.get(card).get(i)[0] = kind;
        cards.get(card).get(i)[2] = kind == 0 ? vehicle : -1;
        return true;
    }

    boolean trip(int vehicle, int from, int to) {
        if (vehicle < 0 || vehicle > 1 || from < 0 || to > 20160 || from >= to) return false;
        List<int[]> own = trips.get(vehicle);
        if (own.size() == 20) return false;
        for (int[] t : own) if (Math.max(t[0], from) < Math.min(t[1], to)) return false;
        own.add(new int[] {from, to});
        return true;
    }

    /** What each MINUTE of a ROW is: D, W or R. */
    char[] minutes(int card, boolean drive) {
        List<int[]> acts = cards.get(card);
        StringBuilder row = new StringBuilder();
        for (int i = 0; i < acts.size(); i++) {
            char c = "DWRW?".charAt(acts.get(i)[0]);
            if (c == '?') c = drive ? 'D' : 'R';
            if (acts.get(i)[0] == 3 && rests(acts, i - 1, drive) && rests(acts, i + 1, drive)) c = 'R';
            row.append(String.valueOf(c).repeat(acts.get(i)[1]));
        }
        return row.toString().toCharArray();
    }

    private static boolean rests(List<int[]> acts, int i, boolean drive) {
        if (i < 0 || i >= acts.size()) return false;
        return acts.get(i)[0] == 2 || acts.get(i)[0] == 4 && !drive;
    }

    static List<int[]> runs(char[] row) {
        List<int[]> runs = new ArrayList<>();
        for (int i = 0; i < row.length; i++) {
            if (row[i] != 'R') continue;
            int from = i;
            while (i < row.length && row[i] == 'R') i++;
            runs.add(new int[] {from, i});
        }
        return runs;
    }

    static int driven(char[] row, int from, int to) {
        int n = 0;
        for (int i = from; i < to; i++) if (row[i] == 'D') n++;
        return n;
    }

    /** The breaches {minute, rule, how many}, in their order. */
    List<int[]> allBreaches(int card, boolean drive) {
        char[] row = minutes(card, drive);
        List<int[]> all = new ArrayList<>();
        int[] end = new int[3];
        ruleOne(row, all, end);
        for (int[] day : best(card, drive).days) {
            int limit = num(day[3] == 1 ? 'e' : 'd');
            addOver(row, day[0], day[1], limit, 2, all);
            if (day[5] > 0) all.add(new int[] {day[0] + 1440, 3, day[5]});
        }
        for (int week = 0; week < 2; week++) {
            addOver(row, Math.min(week * 10080, row.length), Math.min(week * 10080 + 10080, row.length), num('w'), 4, all);
        }
        all.sort((p, q) -> p[0] != q[0] ? p[0] - q[0] : p[1] - q[1]);
        return all;
    }

    private static void addOver(char[] row, int from, int to, int limit, int rule, List<int[]> all) {
        int n = 0;
        int[] told = null;
        for (int i = from; i < to; i++) {
            if (row[i] != 'D' || ++n <= limit) continue;
            if (told == null) {
                told = new int[] {i, rule, 0};
                all.add(told);
            }
            told[2]++;
        }
    }

    /** end: count, 1 if a first part came, length of the RUN at the end (which is left out of both). */
    private void ruleOne(char[] row, List<int[]> all, int[] end) {
        int count = 0;
        int run = 0;
        boolean part = false;
        int[] told = null;
        for (int i = 0; i < row.length; i++) {
            if (row[i] == 'R') {
                run++;
                continue;
            }
            if (run > 0) {
                if (run >= num('b') || part && run >= num('t')) {
                    count = 0;
                    part = false;
                    told = null;
                } else if (run >= num('s')) {
                    part = true;
                }
                run = 0;
            }
            if (row[i] == 'D' && ++count > num('c')) {
                if (told == null) {
                    told = new int[] {i, 1, 0};
                    all.add(told);
                }
                told[2]++;
            }
        }
        end[0] = count;
        end[1] = part ? 1 : 0;
        end[2] = run;
    }

    int may(int card, boolean drive) {
        if (!isCard(card)) return -1;
        int[] end = new int[3];
        ruleOne(minutes(card, drive), new ArrayList<>(), end);
        boolean free = end[2] >= num('b') || end[1] == 1 && end[2] >= num('t');
        return Math.max(0, num('c') - (free ? 0 : end[0]));
    }

    int most(int card, boolean drive, int m) {
        if (!isCard(card) || m < 0 || m > 2000) return -1;
        int[] end = new int[3];
        ruleOne(minutes(card, drive), new ArrayList<>(), end);
        int c = num('c');
        int top = Math.max(num('b'), Math.max(num('s'), num('t')));
        // by minutes left, count, part, run; a count above c and a run above top are as those
        int[][][] later = new int[c + 1][2][top + 1];
        for (int left = 1; left <= m; left++) {
            int[][][] now = new int[c + 1][2][top + 1];
            for (int count = 0; count <= c; count++) {
                for (int part = 0; part < 2; part++) {
                    for (int run = 0; run <= top; run++) {
                        int value = later[count][part][Math.min(top, run + 1)];
                        int nextCount = count;
                        int nextPart = part;
                        if (run >= num('b') || part == 1 && run >= num('t')) {
                            nextCount = 0;
                            nextPart = 0;
                        } else if (run >= num('s')) {
                            nextPart = 1;
                        }
                        if (nextCount < c) value = Math.max(value, 1 + later[nextCount + 1][nextPart][0]);
                        now[count][part][run] = value;
                    }
                }
            }
            later = now;
        }
        return later[Math.min(c, end[0])][end[1]][Math.min(top, end[2])];
    }

    /** A choice of RUNS and DAYS; a day: from, to, drive, extended, ended by, late, over. */
    static final class Choice {
        int weight;
        int taken;
        int extended;
        String takes = "";
        String longs = "";
        List<int[]> days = new ArrayList<>();

        boolean betterThan(Choice o) {
            if (o == null) return true;
            if (weight != o.weight) return weight < o.weight;
            if (taken != o.taken) return taken < o.taken;
            if (extended != o.extended) return extended < o.extended;
            if (!takes.equals(o.takes)) return takes.compareTo(o.takes) > 0;
            return longs.compareTo(o.longs) > 0;
        }
    }

    Choice best(int card, boolean drive) {
        char[] row = minutes(card, drive);
        if (row.length == 0) return new Choice();
        List<int[]> runs = runs(row);
        List<int[]> takeable = new ArrayList<>();
        for (int[] r : runs) {
            int length = r[1] - r[0];
            if (length >= num('q') && length < num('r') && takeable.size() < 12) takeable.add(r);
        }
        int[] drivenTo = new int[row.length + 1];
        for (int i = 0; i < row.length; i++) drivenTo[i + 1] = drivenTo[i] + (row[i] == 'D' ? 1 : 0);
        Choice best = null;
        for (int mask = 0; mask < 1 << takeable.size(); mask++) {
            int[] inWeek = new int[3];
            boolean fits = true;
            for (int i = 0; i < takeable.size(); i++) {
                if ((mask >> i & 1) == 1 && ++inWeek[(takeable.get(i)[1] - 1) / 10080] > num('y')) fits = false;
            }
            if (fits) best = bestOf(row, drivenTo, runs, takeable, mask, best);
        }
        return best;
    }

    private Choice bestOf(char[] row, int[] drivenTo, List<int[]> runs, List<int[]> takeable, int mask, Choice best) {
        List<int[]> days = new ArrayList<>();
        StringBuilder takes = new StringBuilder();
        int begin = 0;
        boolean open = true;
        for (int[] r : runs) {
            int by = r[1] - r[0] >= num('r') ? 1 : 0;
            if (takeable.contains(r)) {
                boolean taken = (mask >> takeable.indexOf(r) & 1) == 1;
                takes.append(taken ? '1' : '0');
                if (taken) by = 2;
            }
            if (by == 0) continue;
            int late = Math.max(0, r[0] + num(by == 1 ? 'r' : 'q') - (begin + 1440));
            days.add(new int[] {begin, r[1], drivenTo[r[1]] - drivenTo[begin], 0, by, late, 0});
            begin = r[1];
            open = r[1] < row.length;
        }
        if (open) {
            int late = Math.max(0, row.length - (begin + 1440));
            days.add(new int[] {begin, row.length, drivenTo[row.length] - drivenTo[begin], 0, 0, late, 0});
        }
        List<Integer> worth = new ArrayList<>();
        for (int i = 0; i < days.size(); i++) {
            int driven = days.get(i)[2];
            if (Math.max(0, driven - num('e')) < Math.max(0, driven - num('d'))) worth.add(i);
        }
        boolean few = worth.size() + takeable.size() <= 13;
        int sets = few ? 1 << worth.size() : 1;
        for (int set = 0; set < sets; set++) {
            Choice choice = choice(days, worth, few ? set : greatestGains(days, worth));
            if (choice == null) continue;
            choice.takes = takes.toString();
            choice.taken = Integer.bitCount(mask);
            if (choice.betterThan(best)) {
                best = choice;
                for (int[] day : days) best.days.add(day.clone());
                for (int i = 0; i < days.size(); i++) best.days.get(i)[3] = choice.longs.charAt(i) - '0';
            }
        }
        return best;
    }

    /** Where there are too many sets to try: the DAYS of each WEEK that gain most, of like ones the earlier. */
    private int greatestGains(List<int[]> days, List<Integer> worth) {
        int longs = 0;
        for (int week = 0; week < 2; week++) {
            for (int n = 0; n < num('x'); n++) {
                int chosen = -1;
                int most = 0;
                for (int i = 0; i < worth.size(); i++) {
                    int[] day = days.get(worth.get(i));
                    int gain = Math.max(0, day[2] - num('d')) - Math.max(0, day[2] - num('e'));
                    if (day[0] / 10080 == week && (longs >> i & 1) == 0 && gain > most) {
                        chosen = i;
                        most = gain;
                    }
                }
                if (chosen < 0) break;
                longs |= 1 << chosen;
            }
        }
        return longs;
    }

    private Choice choice(List<int[]> days, List<Integer> worth, int longs) {
        Choice choice = new Choice();
        int[] inWeek = new int[3];
        char[] marks = new char[days.size()];
        Arrays.fill(marks, '0');
        for (int i = 0; i < worth.size(); i++) {
            if ((longs >> i & 1) == 0) continue;
            marks[worth.get(i)] = '1';
            choice.extended++;
            if (++inWeek[days.get(worth.get(i))[0] / 10080] > num('x')) return null;
        }
        for (int i = 0; i < days.size(); i++) {
            int over = Math.max(0, days.get(i)[2] - num(marks[i] == '1' ? 'e' : 'd'));
            choice.weight += over + days.get(i)[5];
        }
        choice.longs = new String(marks);
        return choice;
    }

    int breaches(int card, boolean drive) {
        return isCard(card) ? allBreaches(card, drive).size() : -1;
    }

    int breach(int card, boolean drive, int i, int what) {
        if (!isCard(card) || what < 0 || what > 2) return -1;
        List<int[]> all = allBreaches(card, drive);
        return i >= 0 && i < all.size() ? all.get(i)[what] : -1;
    }

    int weight(int card, boolean drive) {
        return isCard(card) ? best(card, drive).weight : -1;
    }

    int day(int card, boolean drive, int i, int what) {
        if (!isCard(card) || what < 0 || what > 4) return -1;
        List<int[]> days = best(card, drive).days;
        return i >= 0 && i < days.size() ? days.get(i)[what] : -1;
    }

    int against(int vehicle, int what) {
        if (vehicle < 0 || vehicle > 1 || what < 0 || what > 2) return -1;
        int[] drivers = new int[20160];
        boolean[] trip = new boolean[20160];
        for (List<int[]> acts : cards) {
            int minute = 0;
            for (int[] a : acts) {
                for (int k = 0; k < a[1]; k++, minute++) if (a[0] == 0 && a[2] == vehicle) drivers[minute]++;
            }
        }
        for (int[] t : trips.get(vehicle)) for (int k = t[0]; k < t[1]; k++) trip[k] = true;
        int n = 0;
        for (int k = 0; k < 20160; k++) {
            if (what == 0 && trip[k] && drivers[k] == 0) n++;
            if (what == 1 && drivers[k] > 1) n++;
            if (what == 2 && drivers[k] > 0 && !trip[k]) n++;
        }
        return n;
    }

    int look(int card, int i, int what) {
        if (!isCard(card) || i < 0 || i >= cards.get(card).size()) return -1;
        int[] a = cards.get(card).get(i);
        if (what == 0) return a[0];
        if (what == 1) return a[1];
        if (what == 3) return a[2];
        if (what != 2) return -1;
        int sum = 0;
        for (int k = 0; k < i; k++) sum += cards.get(card).get(k)[1];
        return sum;
    }

    int count(int card, int what) {
        if (card == -1) return what == 0 ? tape.size() : what == 1 || what == 2 ? trips.get(what - 1).size() : -1;
        if (!isCard(card)) return -1;
        char[] row = minutes(card, false);
        int longest = 0;
        for (int[] r : runs(row)) longest = Math.max(longest, r[1] - r[0]);
        int[] all = {cards.get(card).size(), row.length, driven(row, 0, row.length), runs(row).size(), longest};
        return what >= 0 && what < 5 ? all[what] : -1;
    }
}
