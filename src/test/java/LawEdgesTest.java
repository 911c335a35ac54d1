/** The edges of the tape and of THE LAW's text: its terms, and promises 1 to 4. Each test bears the sentence it holds. */
public final class LawEdgesTest extends Checks {
    public static void main(String[] args) {
        lawAsAtFirst();
        oneToFourDigits();
        whatNumbersMayBe();
        noBlanks();
        semicolonBetweenTwo();
        untoldIsAsAtFirst();
        laterOneCounts();
        firstFaultFromTheLeft();
        faultOneTheEndToo();
        faultTwoNoDigit();
        faultThreeFifthDigit();
        faultFourWhenDigitsEnd();
        faultFiveBehindClause();
        everyByteInEveryPlace();
        placesUpToEighty();
        feedTwentyBytes();
        feedHighestFirst();
        feedAboveEighty();
        lawTakesFirstBytes();
        lawEmptiesTape();
        lawHasNotSoMany();
        ruleIsOfAByte();
        end();
    }

    /** An object whose law is not the one at first, so that "stays" and "as at first" differ. */
    private static WheelHours withOwnLaw() {
        WheelHours x = new WheelHours();
        due("own law", tell(x, "c77;b66;x55;y44"), 0);
        return x;
    }

    private static void dueFault(String text, int want) {
        WheelHours x = withOwnLaw();
        due("law \"" + text + "\"", tell(x, text), want);
        due("c stays, \"" + text + "\"", x.rule('c'), 77);
        due("b stays, \"" + text + "\"", x.rule('b'), 66);
        due("x stays, \"" + text + "\"", x.rule('x'), 55);
        due("y stays, \"" + text + "\"", x.rule('y'), 44);
        due("the tape is empty, \"" + text + "\"", x.count(NONE, 0), 0);
    }

    private static void dueLaw(String text, int letter, int want) {
        WheelHours x = withOwnLaw();
        due("law \"" + text + "\"", tell(x, text), 0);
        due("rule of \"" + text + "\"", x.rule(letter), want);
    }

    /** "THE LAW as at first." */
    private static void lawAsAtFirst() {
        for (int i = 0; i < 11; i++) due("at first", new WheelHours().rule(LETTERS.charAt(i)), AT_FIRST[i]);
        due("the tape at first", new WheelHours().count(NONE, 0), 0);
        due("no bytes at first", new WheelHours().law(1), NONE);
    }

    /** "each a letter and a number of one to four digits" */
    private static void oneToFourDigits() {
        dueFault("c", 201);
        dueLaw("c7", 'c', 7);
        dueLaw("c78", 'c', 78);
        dueLaw("c789", 'c', 789);
        dueLaw("c7890", 'c', 7890);
        dueFault("c78901", 305);
        dueLaw("c0007", 'c', 7);
        dueFault("c00007", 305);
        dueLaw("x0007", 'x', 7);
        dueLaw("y0000", 'y', 0);
        dueFault("y00000", 305);
    }

    /** "x and y may be 0 to 99, all others 1 to 9999." */
    private static void whatNumbersMayBe() {
        for (int i = 0; i < 11; i++) {
            char letter = LETTERS.charAt(i);
            boolean small = letter == 'x' || letter == 'y';
            if (small) dueLaw(letter + "0", letter, 0);
            else dueFault(letter + "0", 401);
            dueLaw(letter + "1", letter, 1);
            dueLaw(letter + "99", letter, 99);
            if (small) dueFault(letter + "100", 401);
            else dueLaw(letter + "100", letter, 100);
            if (small) dueFault(letter + "9999", 401);
            else dueLaw(letter + "9999", letter, 9999);
            dueFault(letter + "10000", 305);
        }
    }

    /** "no blanks" */
    private static void noBlanks() {
        dueFault(" c1", 100);
        dueFault("c 1", 201);
        dueFault("c1 2", 502);
        dueFault("c1 ", 502);
        dueFault("c1 ;b2", 502);
        dueFault("c1; b2", 103);
    }

    /** "CLAUSES with a ; (59) between two" */
    private static void semicolonBetweenTwo() {
        dueLaw("c1;b2", 'b', 2);
        dueFault("c1b2", 502);
        dueFault(";c1", 100);
        dueFault("c1;", 103);
        dueFault("c1;;b2", 103);
        dueFault("c1:b2", 502);
        dueFault("c1<b2", 502);
    }

    /** "What no CLAUSE tells is as at first" */
    private static void untoldIsAsAtFirst() {
        WheelHours x = withOwnLaw();
        due("law", tell(x, "w9"), 0);
        for (int i = 0; i < 10; i++) due("untold", x.rule(LETTERS.charAt(i)), AT_FIRST[i]);
        due("told", x.rule('w'), 9);
    }

    /** "the later one of a letter counts" */
    private static void laterOneCounts() {
        dueLaw("c1;c2", 'c', 2);
        dueLaw("c9;b2;c1", 'c', 1);
        dueLaw("x0;x99;x0", 'x', 0);
        dueFault("c0;c5", 401);
        dueFault("c5;c0", 404);
    }

    /** "FAULTS, the first from the left" */
    private static void firstFaultFromTheLeft() {
        dueFault("z;c;c12345;c0;c1 ", 100);
        dueFault("c;z", 201);
        dueFault("c12345;z", 305);
        dueFault("c0;z", 401);
        dueFault("c0!", 401);
        dueFault("c1!z", 502);
        dueFault("c1;c2;x100;z", 407);
        // the number's FAULT is told at its first digit, so it stands left of what is behind its digits
        dueFault("x9999z", 401);
    }

    /** "1 no such letter there (the end, too)" */
    private static void faultOneTheEndToo() {
        dueFault("", 100);
        dueFault("b1;", 103);
        dueFault("c1234;", 106);
        dueFault("a1", 100);
        dueFault("C1", 100);
        dueFault("1", 100);
        dueFault("c1;v1", 103);
    }

    /** "2 no digit there" (the end is none) */
    private static void faultTwoNoDigit() {
        dueFault("cc", 201);
        dueFault("c;", 201);
        dueFault("c-1", 201);
        dueFault("c+1", 201);
        dueFault("c/", 201);
        dueFault("c:", 201);
        dueFault("c1;b", 204);
    }

    /** "3 a fifth digit, at it" */
    private static void faultThreeFifthDigit() {
        dueFault("c123456789", 305);
        dueFault("c00000", 305);
        dueFault("x10000", 305);
        dueFault("b1;c12345", 308);
        WheelHours x = new WheelHours();
        feed(x, "c12345");
        due("a fifth digit behind the text is none of it", x.law(5), 0);
        due("four digits", x.rule('c'), 1234);
    }

    /** "4 a number that it can't be, at its first digit (asked when its digits end)" */
    private static void faultFourWhenDigitsEnd() {
        dueFault("c0", 401);
        dueFault("c00", 401);
        dueFault("c0000", 401);
        dueFault("c0;", 401);
        dueFault("y100", 401);
        dueFault("y0100", 401);
        dueFault("c1;y100;", 404);
        // it is not asked yet while digits go on
        dueLaw("c01", 'c', 1);
        dueFault("x10000", 305);
    }

    /** "5 something else than ; or the end behind a CLAUSE" */
    private static void faultFiveBehindClause() {
        dueFault("c1c", 502);
        dueFault("c1234c", 505);
        dueFault("c1234 ", 505);
        dueFault("c1\u0000", 502);
        dueFault("c1\u00bb", 502);
        dueFault("c1;b22.", 506);
        dueLaw("c1234", 'c', 1234);
    }

    /** A letter, a digit and a ; are each one of the 256 bytes: the other ones are FAULTS at their place. */
    private static void everyByteInEveryPlace() {
        for (char b = 0; b < 256; b++) {
            boolean letter = LETTERS.indexOf(b) >= 0;
            boolean digit = b >= '0' && b <= '9';
            due("letter " + (int) b, tell(new WheelHours(), b + "9"), letter ? 0 : 100);
            due("second letter " + (int) b, tell(new WheelHours(), "c1;" + b + "9"), letter ? 0 : 103);
            due("digit " + (int) b, tell(new WheelHours(), "x" + b), digit ? 0 : 201);
            due("second digit " + (int) b, tell(new WheelHours(), "x1" + b), digit ? 0 : b == ';' ? 103 : 502);
            due("fifth digit " + (int) b, tell(new WheelHours(), "c1234" + b), digit ? 305 : b == ';' ? 106 : 505);
        }
    }

    /** "100 times its number and its place": the tape's last places, too. */
    private static void placesUpToEighty() {
        StringBuilder clauses = new StringBuilder();
        while (clauses.length() < 80) clauses.append("c1;");
        for (int place = 0; place < 80; place++) {
            String text = clauses.substring(0, place) + "\u00ff" + clauses.substring(place + 1, 80);
            int number = place % 3 == 0 ? 1 : place % 3 == 1 ? 2 : 5;
            due("a wrong byte at " + place, tell(new WheelHours(), text), 100 * number + place);
        }
        String seventySix = "b12;".repeat(19);
        dueLaw(seventySix + "c123", 'c', 123);
        dueFault(seventySix + "c12;", 180);
        dueFault(seventySix + "c1;c", 280);
        dueFault("b12;".repeat(17) + "b1;b1;" + "c12345", 379);
        dueFault("b12;".repeat(18) + "b1;b1;" + "c0", 479);
        dueFault(seventySix + "c12!", 579);
    }

    /** "Twenty bytes come behind the tape ...: how many it has" */
    private static void feedTwentyBytes() {
        WheelHours x = new WheelHours();
        due("the first", x.feed(0, 0, 0, 0, 0), 20);
        due("the second", x.feed(-1, -1, -1, -1, -1), 40);
        due("the third", x.feed(Integer.MIN_VALUE, Integer.MAX_VALUE, 1, 2, 3), 60);
        due("the fourth", x.feed(0, 0, 0, 0, 0), 80);
        due("the bytes are there", x.count(NONE, 0), 80);
    }

    /** "the highest of each int first" */
    private static void feedHighestFirst() {
        WheelHours x = new WheelHours();
        // c123 4;b5 ;s6; t7;d 8;e9
        due("feed", x.feed(0x63313233, 0x343B6235, 0x3B73363B, 0x74373B64, 0x383B6539), 20);
        due("law", x.law(20), 0);
        int[] want = {1234, 5, 6, 7, 8, 9};
        for (int i = 0; i < 6; i++) due("rule " + i, x.rule(LETTERS.charAt(i)), want[i]);
        // a byte above 127 is no other byte with a sign
        due("feed", x.feed(0xE331FFFF, -1, -1, -1, -1), 20);
        due("no such letter", x.law(2), 100);
        due("feed", x.feed(0x63B1FFFF, -1, -1, -1, -1), 20);
        due("no digit", x.law(2), 201);
    }

    /** "NONE if that would be more than 80" */
    private static void feedAboveEighty() {
        WheelHours x = new WheelHours();
        String text = "c1111;b2222;s3333;t4444;d5555;e6666;x77;r8888;q9999;y11;w2222;c3333;b4444;s5555;";
        due("eighty", feed(x, text), 80);
        for (int i = 0; i < 3; i++) due("no more", x.feed(0x63393B63, 0, 0, 0, 0), NONE);
        due("still eighty", x.count(NONE, 0), 80);
        due("its first bytes stay", x.law(79), 0);
        int[] want = {3333, 4444, 5555, 4444, 5555, 6666, 77, 8888, 9999, 11, 2222};
        for (int i = 0; i < 11; i++) due("rule " + i, x.rule(LETTERS.charAt(i)), want[i]);
        due("room again", feed(x, text), 80);
        due("no room again", x.feed(0, 0, 0, 0, 0), NONE);
    }

    /** "The first n bytes of the tape ... are THE LAW from now on: 0" */
    private static void lawTakesFirstBytes() {
        int[] wants = {100, 201, 0, 0, 0, 0, 305};
        int[] numbers = {77, 77, 1, 12, 123, 1234, 77};
        for (int n = 0; n <= 6; n++) {
            WheelHours x = withOwnLaw();
            feed(x, "c12345;b9");
            due("the first " + n, x.law(n), wants[n]);
            due("c of the first " + n, x.rule('c'), numbers[n]);
        }
        WheelHours x = new WheelHours();
        feed(x, "c1;b2;s3;t4;d5;e6;r7;w89");
        due("all forty are asked", x.law(40), 524);
        feed(x, "c1;b2;s3;t4;d5;e6;r7;w89");
        due("across the twenty", x.law(24), 0);
        due("across the twenty", x.rule('r'), 7);
        due("across the twenty", x.rule('w'), 89);
    }

    /** "the tape (empty then)", with a FAULT, too */
    private static void lawEmptiesTape() {
        for (int n = 0; n <= 60; n++) {
            WheelHours x = new WheelHours();
            feed(x, "c1;b2;s3;t4;d5;e6;r7;c1;b2;s3;t4;d5;e6;r7;c1;b2");
            due("is told", x.law(n) != NONE, true);
            due("empty behind " + n, x.count(NONE, 0), 0);
            due("no byte is left", x.law(1), NONE);
            due("from the beginning again", tell(x, "w5"), 0);
            due("w", x.rule('w'), 5);
        }
    }

    /** "NONE: it has not so many (the tape stays)" */
    private static void lawHasNotSoMany() {
        for (int size = 0; size <= 80; size += 20) {
            WheelHours x = withOwnLaw();
            for (int at = 0; at < size; at += 20) feed(x, "c1;c2;c3;c4;c5;c6;c;");
            int[] wrong = {size + 1, size + 20, 81, 100, -1, -20};
            for (int n : wrong) due("not " + n + " of " + size, x.law(n), NONE);
            for (int n : FAR) due("not " + n + " of " + size, x.law(n), NONE);
            due("the tape stays", x.count(NONE, 0), size);
            due("the law stays", x.rule('c'), 77);
            if (size > 0) due("its bytes stay", x.law(17), 0);
            if (size > 0) due("its bytes stay", x.rule('c'), 6);
        }
        WheelHours x = new WheelHours();
        due("all of an empty tape", x.law(0), 100);
        feed(x, "c1;b2;s3;t4;d5;e6;r7");
        due("all of the tape", x.law(20), 0);
    }

    /** "The number of a letter (a byte) of THE LAW; NONE: no such letter" */
    private static void ruleIsOfAByte() {
        WheelHours x = withOwnLaw();
        for (int letter = -512; letter < 1024; letter++) {
            boolean known = letter > 0 && letter < 256 && LETTERS.indexOf(letter) >= 0;
            due("rule " + letter, x.rule(letter) != NONE, known);
        }
        for (int i = 0; i < 11; i++) {
            for (int shift = 8; shift < 32; shift++) {
                due("a higher bit", x.rule(LETTERS.charAt(i) | 1 << shift), NONE);
            }
        }
        for (int letter : FAR) due("rule " + letter, x.rule(letter), NONE);
    }
}
