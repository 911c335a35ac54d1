/** A reckoner of hours at the wheel: drivers' cards held against a law that is told as a text. */
public final class WheelHours {
    public static final int NONE = -1;

    private static final int CARDS = 4;
    private static final int VEHICLES = 2;
    private static final int ROW_ACTS = 60;
    private static final int ROW_MINUTES = 20160;
    private static final int WEEK = 10080;
    private static final int WEEKS = 2;
    private static final int MOST_AHEAD = 2000;

    private static final int DRIVE = 0;
    private static final int WORK = 1;
    private static final int REST = 2;
    private static final int FERRY = 3;
    private static final int UNKNOWN = 4;
    private static final int KINDS = 5;

    // Where the number of a letter stands among the numbers of THE LAW.
    private static final int C = 0;
    private static final int B = 1;
    private static final int S = 2;
    private static final int T = 3;
    private static final int D = 4;
    private static final int E = 5;
    private static final int X = 6;
    private static final int R = 7;
    private static final int Q = 8;
    private static final int Y = 9;
    private static final int W = 10;

    private final Tape tape;
    private final Law laws;
    private final Card[] cards;
    private final Trips[] trips;
    private final Reading reading;
    private final Wheel wheel;
    private final Days days;
    private final Planner planner;
    private final Breaches found;
    private final Comparison comparison;

    public WheelHours() {
        tape = new Tape();
        laws = new Law();
        cards = new Card[CARDS];
        for (int i = 0; i < CARDS; i++) {
            cards[i] = new Card();
        }
        trips = new Trips[VEHICLES];
        for (int i = 0; i < VEHICLES; i++) {
            trips[i] = new Trips();
        }
        reading = new Reading();
        wheel = new Wheel(laws, reading);
        days = new Days();
        planner = new Planner(laws, reading, days);
        found = new Breaches();
        comparison = new Comparison();
    }

    public int feed(int a, int b, int c, int d, int e) {
        if (!tape.hasRoom()) {
            return NONE;
        }
        tape.append(a);
        tape.append(b);
        tape.append(c);
        tape.append(d);
        tape.append(e);
        return tape.size;
    }

    public int law(int n) {
        if (n < 0 || n > tape.size) {
            return NONE;
        }
        tape.size = 0;
        return laws.tell(tape.bytes, n);
    }

    public int rule(int letter) {
        int which = Law.placeOf(letter);
        return which == NONE ? NONE : laws.numbers[which];
    }

    public int act(int card, int kind, int minutes, int vehicle) {
        Card row = cardOf(card);
        if (row == null || !isKind(kind, vehicle) || !row.hasRoom(minutes)) {
            return NONE;
        }
        return row.append(kind, minutes, vehicle);
    }

    public boolean put(int card, int i, int kind, int vehicle) {
        Card row = cardOf(card);
        if (row == null || !row.has(i) || !isKind(kind, vehicle)) {
            return false;
        }
        row.change(i, kind, vehicle);
        return true;
    }

    public boolean trip(int vehicle, int from, int to) {
        Trips own = tripsOf(vehicle);
        if (own == null || from < 0 || from >= to || to > ROW_MINUTES) {
            return false;
        }
        return own.insert(from, to);
    }

    public int breaches(int card, boolean drive) {
        Card row = cardOf(card);
        if (row == null) {
            return NONE;
        }
        findDays(row, drive);
        findBreaches();
        return found.size;
    }

    public int breach(int card, boolean drive, int i, int what) {
        Card row = cardOf(card);
        if (row == null) {
            return NONE;
        }
        findDays(row, drive);
        findBreaches();
        return found.tell(i, what);
    }

    public int weight(int card, boolean drive) {
        Card row = cardOf(card);
        if (row == null) {
            return NONE;
        }
        findDays(row, drive);
        return days.overAndLate();
    }

    public int day(int card, boolean drive, int i, int what) {
        Card row = cardOf(card);
        if (row == null) {
            return NONE;
        }
        findDays(row, drive);
        return days.tell(i, what);
    }

    public int may(int card, boolean drive) {
        Card row = cardOf(card);
        if (row == null) {
            return NONE;
        }
        reading.read(row, drive);
        return wheel.leftNow();
    }

    public int most(int card, boolean drive, int m) {
        Card row = cardOf(card);
        if (row == null || m < 0 || m > MOST_AHEAD) {
            return NONE;
        }
        reading.read(row, drive);
        return wheel.mostAhead(m);
    }

    public int against(int vehicle, int what) {
        Trips own = tripsOf(vehicle);
        if (own == null) {
            return NONE;
        }
        comparison.compare(cards, own, vehicle);
        switch (what) {
            case 0: return comparison.withoutCard;
            case 1: return comparison.withMoreCards;
            case 2: return comparison.withoutTrip;
            default: return NONE;
        }
    }

    public int look(int card, int i, int what) {
        Card row = cardOf(card);
        if (row == null || !row.has(i)) {
            return NONE;
        }
        switch (what) {
            case 0: return row.kind[i];
            case 1: return row.begin[i + 1] - row.begin[i];
            case 2: return row.begin[i];
            case 3: return row.vehicle[i];
            default: return NONE;
        }
    }

    public int count(int card, int what) {
        if (card == NONE) {
            return countOfAll(what);
        }
        Card row = cardOf(card);
        if (row == null) {
            return NONE;
        }
        reading.read(row, false);
        switch (what) {
            case 0: return reading.acts;
            case 1: return reading.total;
            case 2: return reading.drive;
            case 3: return reading.runs;
            case 4: return reading.longestRun();
            default: return NONE;
        }
    }

    private int countOfAll(int what) {
        switch (what) {
            case 0: return tape.size;
            case 1: return trips[0].size;
            case 2: return trips[1].size;
            default: return NONE;
        }
    }

    private Card cardOf(int card) {
        return card >= 0 && card < CARDS ? cards[card] : null;
    }

    private Trips tripsOf(int vehicle) {
        return vehicle >= 0 && vehicle < VEHICLES ? trips[vehicle] : null;
    }

    private static boolean isKind(int kind, int vehicle) {
        if (kind == DRIVE) {
            return vehicle >= 0 && vehicle < VEHICLES;
        }
        return kind > DRIVE && kind < KINDS;
    }

    private void findDays(Card row, boolean unknownDrives) {
        reading.read(row, unknownDrives);
        planner.findPrices();
        planner.tellDays();
    }

    /** Of the ROW whose DAYS were found last. */
    private void findBreaches() {
        found.size = 0;
        wheel.tellOver(found);
        days.tellOverAndLate(found, laws, reading);
        tellOverInWeeks();
    }

    private void tellOverInWeeks() {
        int most = laws.numbers[W];
        for (int week = 0; week < WEEKS; week++) {
            int ahead = reading.driveAhead(week * WEEK);
            int over = reading.driveAhead((week + 1) * WEEK) - ahead - most;
            if (over > 0) {
                found.insert(reading.driveMinute(ahead + most), 4, over);
            }
        }
    }

    private static final class Tape {
        private static final int BYTES = 80;
        private static final int FED_AT_ONCE = 20;

        final int[] bytes = new int[BYTES];
        int size = 0;

        boolean hasRoom() {
            return size <= BYTES - FED_AT_ONCE;
        }

        void append(int four) {
            for (int shift = 24; shift >= 0 && size < BYTES; shift -= 8) {
                bytes[size] = (four >>> shift) & 255;
                size++;
            }
        }
    }

    private static final class Law {
        private static final char[] LETTERS = {'c', 'b', 's', 't', 'd', 'e', 'x', 'r', 'q', 'y', 'w'};
        private static final int[] AT_FIRST = {270, 45, 15, 30, 540, 600, 2, 660, 540, 3, 3360};
        private static final int DIGITS = 4;

        final int[] numbers = AT_FIRST.clone();
        // A text is told into here first, so that a FAULT leaves the numbers as they are.
        private final int[] told = new int[AT_FIRST.length];

        static int placeOf(int letter) {
            for (int i = 0; i < LETTERS.length; i++) {
                if (LETTERS[i] == letter) {
                    return i;
                }
            }
            return NONE;
        }

        /** 0, or 100 times the FAULT's number and its place. */
        int tell(int[] text, int asked) {
            int length = Math.min(asked, text.length);
            System.arraycopy(AT_FIRST, 0, told, 0, AT_FIRST.length);
            int at = 0;
            while (at < length) {
                int which = placeOf(text[at]);
                if (which == NONE) {
                    return 100 + at;
                }
                int first = at + 1;
                int end = endOfDigits(text, first, length);
                if (end == first) {
                    return 200 + first;
                }
                if (end - first > DIGITS) {
                    return 300 + first + DIGITS;
                }
                int number = numberOf(text, first, end);
                if (!canBe(which, number)) {
                    return 400 + first;
                }
                told[which] = number;
                if (end >= length) {
                    System.arraycopy(told, 0, numbers, 0, numbers.length);
                    return 0;
                }
                if (text[end] != ';') {
                    return 500 + end;
                }
                at = end + 1;
            }
            return 100 + length;
        }

        private static int endOfDigits(int[] text, int first, int length) {
            int end = first;
            while (end < length && text[end] >= '0' && text[end] <= '9') {
                end++;
            }
            return end;
        }

        private static int numberOf(int[] text, int first, int end) {
            int number = 0;
            for (int i = first; i < end; i++) {
                number = number * 10 + text[i] - '0';
            }
            return number;
        }

        private static boolean canBe(int which, int number) {
            if (which == X || which == Y) {
                return number <= 99;
            }
            return number >= 1;
        }
    }

    private static final class Card {
        final int[] kind = new int[ROW_ACTS];
        final int[] vehicle = new int[ROW_ACTS];
        // One more than ACTS: the MINUTE behind the last one stands there, too.
        final int[] begin = new int[ROW_ACTS + 1];
        int acts = 0;

        boolean has(int i) {
            return i >= 0 && i < acts;
        }

        boolean hasRoom(int minutes) {
            return minutes >= 1 && acts < ROW_ACTS && minutes <= ROW_MINUTES - begin[acts];
        }

        int append(int newKind, int minutes, int newVehicle) {
            int i = acts;
            acts++;
            begin[acts] = begin[i] + minutes;
            change(i, newKind, newVehicle);
            return i;
        }

        void change(int i, int newKind, int newVehicle) {
            kind[i] = newKind;
            vehicle[i] = newKind == DRIVE ? newVehicle : NONE;
        }

        boolean drives(int i, int asked) {
            return kind[i] == DRIVE && vehicle[i] == asked;
        }

        /** DRIVE, WORK or REST: what ACT i counts as. */
        int kindRead(int i, boolean unknownDrives) {
            switch (kind[i]) {
                case UNKNOWN: return unknownDrives ? DRIVE : REST;
                case FERRY: return isRest(i - 1, unknownDrives) && isRest(i + 1, unknownDrives) ? REST : WORK;
                default: return kind[i];
            }
        }

        private boolean isRest(int i, boolean unknownDrives) {
            return has(i) && (kind[i] == REST || kind[i] == UNKNOWN && !unknownDrives);
        }
    }

    private static final class Trips {
        private static final int TRIPS = 20;

        // By their MINUTES, so that a comparison goes through them once.
        final int[] from = new int[TRIPS];
        final int[] to = new int[TRIPS];
        int size = 0;

        boolean insert(int newFrom, int newTo) {
            if (size >= TRIPS) {
                return false;
            }
            int at = 0;
            while (at < size && to[at] <= newFrom) {
                at++;
            }
            if (at < size && from[at] < newTo) {
                return false;
            }
            System.arraycopy(from, at, from, at + 1, size - at);
            System.arraycopy(to, at, to, at + 1, size - at);
            from[at] = newFrom;
            to[at] = newTo;
            size++;
            return true;
        }
    }

    /** A ROW by one READING of UNKNOWN, with its RUNS. */
    private static final class Reading {
        private final int[] kind = new int[ROW_ACTS];
        private final int[] begin = new int[ROW_ACTS + 1];
        final int[] runFrom = new int[ROW_ACTS];
        final int[] runTo = new int[ROW_ACTS];
        // MINUTES of DRIVE ahead of a RUN, from the ROW's beginning on.
        final int[] runDrive = new int[ROW_ACTS];
        int acts = 0;
        int total = 0;
        int drive = 0;
        int runs = 0;

        void read(Card row, boolean unknownDrives) {
            acts = row.acts;
            total = row.begin[acts];
            drive = 0;
            runs = 0;
            System.arraycopy(row.begin, 0, begin, 0, acts + 1);
            for (int i = 0; i < acts; i++) {
                kind[i] = row.kindRead(i, unknownDrives);
                if (kind[i] == DRIVE) {
                    drive += begin[i + 1] - begin[i];
                } else if (kind[i] == REST) {
                    addRest(i);
                }
            }
        }

        private void addRest(int i) {
            if (i == 0 || kind[i - 1] != REST) {
                runFrom[runs] = begin[i];
                runDrive[runs] = drive;
                runs++;
            }
            runTo[runs - 1] = begin[i + 1];
        }

        int runLength(int i) {
            return runTo[i] - runFrom[i];
        }

        int longestRun() {
            int longest = 0;
            for (int i = 0; i < runs; i++) {
                longest = Math.max(longest, runLength(i));
            }
            return longest;
        }

        boolean endsWithRun() {
            return runs > 0 && runTo[runs - 1] == total;
        }

        /** MINUTES of DRIVE ahead of a MINUTE. */
        int driveAhead(int minute) {
            int sum = 0;
            for (int i = 0; i < acts && begin[i] < minute; i++) {
                if (kind[i] == DRIVE) {
                    sum += Math.min(minute, begin[i + 1]) - begin[i];
                }
            }
            return sum;
        }

        /** The MINUTE of DRIVE that has so many others ahead of it. */
        int driveMinute(int ahead) {
            int left = ahead;
            for (int i = 0; i < acts; i++) {
                if (kind[i] == DRIVE) {
                    if (left < begin[i + 1] - begin[i]) {
                        return begin[i] + left;
                    }
                    left -= begin[i + 1] - begin[i];
                }
            }
            return total;
        }
    }

    /** RULE 1: driving in a row, and what may be driven FROM NOW. */
    private static final class Wheel {
        private final Law laws;
        private final Reading reading;
        // MINUTES of DRIVE ahead of where the count was 0 last.
        private int base = 0;
        // Whether the first part of a SPLIT BREAK came since then.
        private boolean parted = false;

        Wheel(Law laws, Reading reading) {
            this.laws = laws;
            this.reading = reading;
        }

        private boolean frees(int run) {
            return run >= laws.numbers[B] || parted && run >= laws.numbers[T];
        }

        private void passRun(int i) {
            int run = reading.runLength(i);
            if (frees(run)) {
                base = reading.runDrive[i];
                parted = false;
            } else if (run >= laws.numbers[S]) {
                parted = true;
            }
        }

        private void passRuns(int n) {
            base = 0;
            parted = false;
            for (int i = 0; i < n; i++) {
                passRun(i);
            }
        }

        void tellOver(Breaches found) {
            passRuns(0);
            for (int i = 0; i < reading.runs; i++) {
                int before = base;
                passRun(i);
                if (base > before) {
                    tellSpell(found, before, base);
                }
            }
            tellSpell(found, base, reading.drive);
        }

        private void tellSpell(Breaches found, int from, int to) {
            int first = from + laws.numbers[C];
            if (to > first) {
                found.insert(reading.driveMinute(first), 1, to - first);
            }
        }

        int leftNow() {
            passRuns(reading.runs);
            return Math.max(0, laws.numbers[C] - (reading.drive - base));
        }

        /**
         * REST comes first, as long as the RUN then needs to be something (or none at all):
         * a RUN between two such lengths is worth no more than the shorter one.
         */
        int mostAhead(int minutes) {
            int lying = 0;
            if (reading.endsWithRun()) {
                passRuns(reading.runs - 1);
                lying = reading.runLength(reading.runs - 1);
            } else {
                passRuns(reading.runs);
            }
            int best = mostBehindRest(lying, minutes);
            best = Math.max(best, mostWithRestTo(laws.numbers[S], lying, minutes));
            best = Math.max(best, mostWithRestTo(laws.numbers[T], lying, minutes));
            return Math.max(best, mostWithRestTo(laws.numbers[B], lying, minutes));
        }

        private int mostWithRestTo(int length, int lying, int minutes) {
            int more = Math.max(0, length - lying);
            return more > minutes ? 0 : mostBehindRest(lying + more, minutes - more);
        }

        private int mostBehindRest(int run, int minutes) {
            int most = laws.numbers[C];
            if (frees(run)) {
                return mostInSpells(most, breakFrom(most), minutes);
            }
            int left = most - (reading.drive - base);
            if (parted || run >= laws.numbers[S]) {
                return mostInSpells(left, Math.min(laws.numbers[B], laws.numbers[T]), minutes);
            }
            return mostInSpells(left, breakFrom(left), minutes);
        }

        /** The least REST that makes the count 0, with so much DRIVE left, if no part came yet. */
        private int breakFrom(int left) {
            int whole = laws.numbers[B];
            // A MINUTE of DRIVE must stand ahead of the first part, and one between the two.
            return left < 2 ? whole : Math.min(whole, laws.numbers[S] + laws.numbers[T]);
        }

        /**
         * DRIVE first: what is left, a break, then full spells with a break behind each.
         * With the same breaks a plan that drives less ahead of one never drives more in all.
         */
        private int mostInSpells(int left, int firstBreak, int minutes) {
            if (left <= 0) {
                return 0;
            }
            int behind = minutes - left - firstBreak;
            if (behind <= 0) {
                return Math.min(minutes, left);
            }
            int spell = laws.numbers[C];
            int round = Math.max(1, spell + breakFrom(spell));
            return left + behind / round * spell + Math.min(behind % round, spell);
        }
    }

    /** The DAYS of a ROW by THE BEST. */
    private static final class Days {
        private static final int MOST = ROW_ACTS + 1;
        static final int SPAN = 1440;
        static final int BY_ROW_END = 0;
        static final int BY_FULL = 1;
        static final int BY_REDUCED = 2;

        private final int[] from = new int[MOST];
        private final int[] to = new int[MOST];
        private final int[] drive = new int[MOST];
        private final int[] extended = new int[MOST];
        private final int[] endedBy = new int[MOST];
        private final int[] over = new int[MOST];
        private final int[] late = new int[MOST];
        int size = 0;

        void addSpan(int newFrom, int newTo, int by) {
            if (size < MOST) {
                from[size] = newFrom;
                to[size] = newTo;
                endedBy[size] = by;
                size++;
            }
        }

        void setLast(int newDrive, int newExtended, int newOver, int newLate) {
            if (size > 0) {
                drive[size - 1] = newDrive;
                extended[size - 1] = newExtended;
                over[size - 1] = newOver;
                late[size - 1] = newLate;
            }
        }

        int overAndLate() {
            int sum = 0;
            for (int i = 0; i < size; i++) {
                sum += over[i] + late[i];
            }
            return sum;
        }

        void tellOverAndLate(Breaches found, Law laws, Reading reading) {
            int ahead = 0;
            for (int i = 0; i < size; i++) {
                if (over[i] > 0) {
                    int most = laws.numbers[extended[i] == 1 ? E : D];
                    found.insert(reading.driveMinute(ahead + most), 2, over[i]);
                }
                if (late[i] > 0) {
                    found.insert(from[i] + SPAN, 3, late[i]);
                }
                ahead += drive[i];
            }
        }

        int tell(int i, int what) {
            if (i < 0 || i >= size) {
                return NONE;
            }
            switch (what) {
                case 0: return from[i];
                case 1: return to[i];
                case 2: return drive[i];
                case 3: return extended[i];
                case 4: return endedBy[i];
                default: return NONE;
            }
        }
    }

    /**
     * Finds THE BEST. The marks are MINUTE 0, the ends of the RUNS that may end a DAY, and the ROW's
     * end. For each mark, from the last to the first, and for each number of REDUCED RESTS and
     * EXTENDED DAYS that its WEEK still has, the least price of all DAYS from there on is found:
     * what its WEEK still has is all that the DAYS ahead of a mark mean to those behind it.
     */
    private static final class Planner {
        private static final int MARKS = ROW_ACTS + 2;
        private static final int TAKEABLE = 12;

        // A price is one number whose parts stand in the order in which THE BEST asks for them;
        // its lowest bits are the RUNS taken, the earlier the higher, and they make it less.
        private static final long MINUTE_PRICE = 1L << 22;
        private static final long TAKEN_PRICE = 1L << 18;
        private static final long EXTENDED_PRICE = 1L << 12;
        private static final long FIRST_TAKEN_GAIN = 1L << 11;
        private static final long OUT_OF_REACH = 1L << 60;

        private final Law laws;
        private final Reading reading;
        private final Days days;
        private final int[] minute = new int[MARKS];
        // MINUTES of DRIVE ahead of a mark.
        private final int[] drive = new int[MARKS];
        // The MINUTE from which on a DAY that ends with this mark is no longer LATE.
        private final int[] enough = new int[MARKS];
        private final int[] endedBy = new int[MARKS];
        private final long[] ownPrice = new long[MARKS];
        private int marks = 0;
        private int mostTaken = 0;
        private int mostExtended = 0;
        private long[] least = new long[256];

        Planner(Law laws, Reading reading, Days days) {
            this.laws = laws;
            this.reading = reading;
            this.days = days;
        }

        void findPrices() {
            findMarks();
            makeRoom();
            for (int mark = marks - 1; mark >= 0; mark--) {
                findLeast(mark);
            }
        }

        private void findMarks() {
            int takeable = 0;
            marks = 0;
            addMark(0, 0, 0, Days.BY_ROW_END, 0L);
            for (int i = 0; i < reading.runs; i++) {
                int length = reading.runLength(i);
                if (length >= laws.numbers[R]) {
                    addRest(i, laws.numbers[R], Days.BY_FULL, 0L);
                } else if (length >= laws.numbers[Q] && takeable < TAKEABLE) {
                    addRest(i, laws.numbers[Q], Days.BY_REDUCED, TAKEN_PRICE - (FIRST_TAKEN_GAIN >> takeable));
                    takeable++;
                }
            }
            addMark(reading.total, reading.drive, reading.total, Days.BY_ROW_END, 0L);
            mostTaken = Math.min(laws.numbers[Y], takeable);
            mostExtended = Math.min(laws.numbers[X], marks);
        }

        private void addRest(int run, int length, int by, long price) {
            addMark(reading.runTo[run], reading.runDrive[run], reading.runFrom[run] + length, by, price);
        }

        private void addMark(int newMinute, int newDrive, int newEnough, int by, long price) {
            if (marks < MARKS) {
                minute[marks] = newMinute;
                drive[marks] = newDrive;
                enough[marks] = newEnough;
                endedBy[marks] = by;
                ownPrice[marks] = price;
                marks++;
            }
        }

        /** The table grows to twice its size at least, so that all its sizes together stay small. */
        private void makeRoom() {
            int need = placeOf(marks, 0, 0);
            if (need > least.length) {
                least = new long[Math.max(need, 2 * least.length)];
            }
        }

        private int placeOf(int mark, int taken, int extended) {
            return (mark * (mostTaken + 1) + taken) * (mostExtended + 1) + extended;
        }

        private void findLeast(int mark) {
            boolean atEnd = minute[mark] >= reading.total;
            int behind = placeOf(mark + 1, 0, 0);
            for (int place = placeOf(mark, 0, 0); place < behind; place++) {
                least[place] = atEnd ? 0L : OUT_OF_REACH;
            }
            if (atEnd) {
                return;
            }
            int last = lastEnd(mark);
            for (int end = mark + 1; end <= last; end++) {
                offer(mark, end, 0);
                offer(mark, end, 1);
            }
        }

        /** The mark that ends a DAY if no RUN is taken in it. */
        private int lastEnd(int mark) {
            int end = mark + 1;
            while (end < marks - 1 && endedBy[end] == Days.BY_REDUCED) {
                end++;
            }
            return Math.min(end, marks - 1);
        }

        private void offer(int mark, int end, int extended) {
            long price = priceOf(mark, end, extended);
            for (int taken = 0; taken <= mostTaken; taken++) {
                int restsBehind = takenLeft(mark, end, taken);
                for (int room = 0; room <= mostExtended; room++) {
                    int place = placeOf(mark, taken, room);
                    int daysBehind = extendedLeft(mark, end, room - extended);
                    least[place] = Math.min(least[place], price + leastFrom(end, restsBehind, daysBehind));
                }
            }
        }

        private long priceOf(int mark, int end, int extended) {
            long minutes = overOf(mark, end, extended) + lateOf(mark, end);
            return minutes * MINUTE_PRICE + extended * EXTENDED_PRICE + ownPrice[end];
        }

        private int overOf(int mark, int end, int extended) {
            return Math.max(0, drive[end] - drive[mark] - laws.numbers[extended == 1 ? E : D]);
        }

        private int lateOf(int mark, int end) {
            return Math.max(0, enough[end] - minute[mark] - Days.SPAN);
        }

        /** How many RUNS may be taken behind the end in its WEEK; less than 0: the end may not be one. */
        private int takenLeft(int mark, int end, int taken) {
            int lastWeek = (minute[end] - 1) / WEEK;
            int left = lastWeek == minute[mark] / WEEK ? taken : mostTaken;
            if (endedBy[end] == Days.BY_REDUCED) {
                left--;
            }
            return left < 0 || lastWeek == minute[end] / WEEK ? left : mostTaken;
        }

        /** How many DAYS may be EXTENDED from the end on in its WEEK; less than 0: one too many is. */
        private int extendedLeft(int mark, int end, int left) {
            return left < 0 || minute[mark] / WEEK == minute[end] / WEEK ? left : mostExtended;
        }

        private long leastFrom(int mark, int taken, int extended) {
            return taken < 0 || extended < 0 ? OUT_OF_REACH : least[placeOf(mark, taken, extended)];
        }

        void tellDays() {
            days.size = 0;
            int mark = 0;
            int taken = mostTaken;
            int extended = mostExtended;
            for (int step = 0; step < marks && minute[mark] < reading.total; step++) {
                int choice = choiceAt(mark, taken, extended);
                int end = choice / 2;
                int longer = choice % 2;
                days.addSpan(minute[mark], minute[end], endedBy[end]);
                days.setLast(drive[end] - drive[mark], longer, overOf(mark, end, longer), lateOf(mark, end));
                taken = takenLeft(mark, end, taken);
                extended = extendedLeft(mark, end, extended - longer);
                mark = end;
            }
        }

        /**
         * Twice the end and whether the DAY is EXTENDED. Like prices have the same RUNS taken, so
         * only EXTENDED is still open: the earlier DAY first.
         */
        private int choiceAt(int mark, int taken, int extended) {
            int last = lastEnd(mark);
            long price = leastFrom(mark, taken, extended);
            for (int end = mark + 1; end <= last; end++) {
                int restsBehind = takenLeft(mark, end, taken);
                for (int longer = 1; longer >= 0; longer--) {
                    int daysBehind = extendedLeft(mark, end, extended - longer);
                    if (priceOf(mark, end, longer) + leastFrom(end, restsBehind, daysBehind) == price) {
                        return 2 * end + longer;
                    }
                }
            }
            return 2 * last;
        }
    }

    /** The BREACHES of a ROW, by their MINUTES, of one MINUTE by RULES. */
    private static final class Breaches {
        // RULES 1 to 3 breach at most once for each RUN and once more, RULE 4 once a WEEK.
        private static final int MOST = 3 * (ROW_ACTS + 1) + WEEKS;

        private final int[] minute = new int[MOST];
        private final int[] rule = new int[MOST];
        private final int[] much = new int[MOST];
        int size = 0;

        void insert(int newMinute, int newRule, int newMuch) {
            if (size >= MOST) {
                return;
            }
            int at = size;
            while (at > 0 && isBehind(at - 1, newMinute, newRule)) {
                minute[at] = minute[at - 1];
                rule[at] = rule[at - 1];
                much[at] = much[at - 1];
                at--;
            }
            minute[at] = newMinute;
            rule[at] = newRule;
            much[at] = newMuch;
            size++;
        }

        private boolean isBehind(int i, int newMinute, int newRule) {
            return minute[i] > newMinute || minute[i] == newMinute && rule[i] > newRule;
        }

        int tell(int i, int what) {
            if (i < 0 || i >= size) {
                return NONE;
            }
            switch (what) {
                case 0: return minute[i];
                case 1: return rule[i];
                case 2: return much[i];
                default: return NONE;
            }
        }
    }

    /** A VEHICLE's TRIPS HELD AGAINST the CARDS. */
    private static final class Comparison {
        // Each step ends where an ACT or a TRIP begins or ends.
        private static final int STEPS = CARDS * ROW_ACTS + 2 * Trips.TRIPS + 1;

        private final int[] actAt = new int[CARDS];
        private int tripAt = 0;
        private int next = 0;
        int withoutCard = 0;
        int withMoreCards = 0;
        int withoutTrip = 0;

        void compare(Card[] cards, Trips trips, int vehicle) {
            startAgain();
            int minute = 0;
            for (int step = 0; step < STEPS && minute < ROW_MINUTES; step++) {
                next = ROW_MINUTES;
                int drivers = 0;
                for (int card = 0; card < CARDS; card++) {
                    drivers += isDriven(cards[card], card, minute, vehicle) ? 1 : 0;
                }
                boolean onTrip = isOnTrip(trips, minute);
                addMinutes(next - minute, drivers, onTrip);
                minute = next;
            }
        }

        private void startAgain() {
            for (int card = 0; card < CARDS; card++) {
                actAt[card] = 0;
            }
            tripAt = 0;
            withoutCard = 0;
            withMoreCards = 0;
            withoutTrip = 0;
        }

        private boolean isDriven(Card row, int card, int minute, int vehicle) {
            if (actAt[card] < row.acts && row.begin[actAt[card] + 1] <= minute) {
                actAt[card]++;
            }
            int act = actAt[card];
            if (act >= row.acts) {
                return false;
            }
            next = Math.min(next, row.begin[act + 1]);
            return row.drives(act, vehicle);
        }

        private boolean isOnTrip(Trips trips, int minute) {
            if (tripAt < trips.size && trips.to[tripAt] <= minute) {
                tripAt++;
            }
            if (tripAt >= trips.size) {
                return false;
            }
            boolean begun = trips.from[tripAt] <= minute;
            next = Math.min(next, begun ? trips.to[tripAt] : trips.from[tripAt]);
            return begun;
        }

        private void addMinutes(int minutes, int drivers, boolean onTrip) {
            if (onTrip && drivers == 0) {
                withoutCard += minutes;
            }
            if (drivers >= 2) {
                withMoreCards += minutes;
            }
            if (drivers >= 1 && !onTrip) {
                withoutTrip += minutes;
            }
        }
    }
}
