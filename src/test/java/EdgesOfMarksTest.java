/** Term 1 and promises 1 to 10, sentence by sentence: the last input that is taken, the first that is not. */
public final class EdgesOfMarksTest {
    private static final Due due = new Due("EdgesOfMarksTest");
    private static final String[] LONGEST = {"ABC", "9999", ".123456", "y1999", ".A12345", "v999", "c999"};
    private static final int LETTERS = 0;
    private static final int WHOLE = 1;
    private static final int DECIMAL = 2;
    private static final int WORK = 4;
    private static final int VOLUME = 5;
    private static final int COPY = 6;

    public static void main(String[] args) {
        atMost200();
        oneToEightParts();
        letters();
        whole();
        decimal();
        year();
        work();
        volumeAndCopy();
        lastParts();
        blanks();
        prefixes();
        namedFaults();
        sixtyBytes();
        sorted();
        sortedByWays();
        newObject();
        feed();
        markLengths();
        fault();
        count();
        part();
        writeAndOut();
        way();
        sorts();
        due.end();
    }

    /** The text is that of a MARK, of so many PARTS. */
    private static void good(String text, int parts) {
        ShelfCart x = new ShelfCart();
        due.is("mark '" + text + "'", Due.mark(x, text), 0);
        due.is("fault of '" + text + "'", x.fault(), -1);
        due.is("count(0) with '" + text + "'", x.count(0), 1);
        due.is("'" + text + "' has its last PART", x.part(0, parts - 1, 0) == -1 ? 0 : 1, 1);
        due.is("'" + text + "' has no PART more", x.part(0, parts, 0), -1);
        due.is("'" + text + "' is written", Due.written(x, 0), text);
    }

    /** The text has its FAULT there. */
    private static void bad(String text, int place) {
        ShelfCart x = new ShelfCart();
        due.is("mark '" + text + "'", Due.mark(x, text), -1);
        due.is("fault of '" + text + "'", x.fault(), place);
        due.is("count(0) with '" + text + "'", x.count(0), 0);
        due.is("the tape is taken with '" + text + "'", x.mark(1), -3);
    }

    private static void value(String text, int k, int kind, int value) {
        ShelfCart x = new ShelfCart();
        due.is("mark '" + text + "'", Due.mark(x, text), 0);
        due.is("KIND of '" + text + "'", x.part(0, k, 0), kind);
        due.is("value of '" + text + "'", x.part(0, k, 1), value);
        due.is("digits of '" + text + "'", x.part(0, k, 2), 0);
        due.is("how many digits of '" + text + "'", x.part(0, k, 3), 0);
    }

    private static void digits(String text, int k, int kind, int... values) {
        ShelfCart x = new ShelfCart();
        due.is("mark '" + text + "'", Due.mark(x, text), 0);
        due.is("KIND of '" + text + "'", x.part(0, k, 0), kind);
        for (int what = 1; what < 4; what++) {
            due.is("part, what " + what + " of '" + text + "'", x.part(0, k, what), values[what - 1]);
        }
    }

    private static void atMost200() {
        due.sentence("MARKS (at most 200, numbered from 0 on as they are made; one that is as another is that one)");
        ShelfCart x = new ShelfCart();
        for (int k = 0; k < 200; k++) {
            due.is("the MARK " + k, Due.mark(x, "A" + k), k);
        }
        due.is("the 201st", Due.mark(x, "A200"), -2);
        due.is("its FAULT", x.fault(), -1);
        due.is("it is not made", x.count(0), 200);
        due.is("the tape is empty behind it", x.mark(1), -3);
        due.is("the first one, again", Due.mark(x, "A0"), 0);
        due.is("the last one, again", Due.mark(x, "A199"), 199);
        due.is("the 201st, again", Due.mark(x, "A200"), -2);
        due.is("the last one's PART", x.part(199, 1, 1), 199);
        due.is("no more", x.part(200, 0, 0), -1);
        ShelfCart y = new ShelfCart();
        due.is("A1", Due.mark(y, "A1"), 0);
        due.is("A10 begins with it", Due.mark(y, "A10"), 1);
        due.is("A1.1", Due.mark(y, "A1.1"), 2);
        due.is("A1 c1", Due.mark(y, "A1 c1"), 3);
        due.is("A1 v1", Due.mark(y, "A1 v1"), 4);
        due.is("A1 .A1", Due.mark(y, "A1 .A1"), 5);
        due.is("A1.01, of another row of digits", Due.mark(y, "A1.01"), 6);
        due.is("A1 again", Due.mark(y, "A1"), 0);
        due.is("A1.1 again", Due.mark(y, "A1.1"), 2);
    }

    private static void oneToEightParts() {
        due.sentence("are rows of 1 to 8 PARTS");
        bad("", 0);
        good("A", 1);
        good("A A A A A A A A", 8);
        bad("A A A A A A A A A", 15);
        good("A1.5 A1.5 A1", 8);
        bad("A1.5 A1.5 A1.5", 12);
        bad("A1.5 A1.5 A1 A", 12);
        good("A1.5 .B1 y1000 .5 v1 c1", 8);
        good("1 A1 A1 A1 A", 8);
        bad("1 A1 A1 A1 A1", 12);
        bad("A A A A A A A v1 c1", 16);
        bad("A A A A A A A A ", 15);
    }

    private static void letters() {
        due.sentence("0 LETTERS: 1 to 3 of A .. Z.");
        bad("@", 0);
        good("A", 1);
        good("Z", 1);
        bad("[", 0);
        bad("a", 0);
        bad("z", 0);
        bad("A@", 1);
        good("AA", 1);
        good("AZ", 1);
        bad("A[", 1);
        bad("ZZ@", 2);
        good("ZZA", 1);
        good("ZZZ", 1);
        bad("ZZ[", 2);
        good("ZA", 1);
        good("ZZ", 1);
        good("BAA", 1);
        good("MNO", 1);
        good("ZAA", 1);
        bad("ZZZZ", 3);
        bad("ZZZA1", 3);
        due.sentence("LETTERS: as a number to the base 27, A 1 .. Z 26;");
        value("A", 0, LETTERS, 1);
        value("Z", 0, LETTERS, 26);
        value("AA", 0, LETTERS, 28);
        value("ZZ", 0, LETTERS, 26 * 27 + 26);
        value("AAA", 0, LETTERS, 27 * 27 + 27 + 1);
        value("ZZZ", 0, LETTERS, 26 * 27 * 27 + 26 * 27 + 26);
    }

    private static void whole() {
        due.sentence("1 WHOLE: a number, 0 .. 9999.");
        due.sentence("WHOLE: its digits, no 0 ahead of others;");
        bad("/", 0);
        bad(":", 0);
        bad("-1", 0);
        value("0", 0, WHOLE, 0);
        value("9", 0, WHOLE, 9);
        value("10", 0, WHOLE, 10);
        value("99", 0, WHOLE, 99);
        value("100", 0, WHOLE, 100);
        value("999", 0, WHOLE, 999);
        value("1000", 0, WHOLE, 1000);
        value("9999", 0, WHOLE, 9999);
        bad("10000", 4);
        bad("99999", 4);
        bad("00", 1);
        bad("01", 1);
        bad("09", 1);
        bad("9/", 1);
        bad("9:", 1);
        good("0 0", 2);
        good("0.1", 2);
        bad("A00", 2);
        good("A0", 2);
        good("A9999", 2);
        bad("A10000", 5);
    }

    private static void decimal() {
        due.sentence("2 DECIMAL: 1 to 6 digits, the last one no 0.");
        due.sentence("DECIMAL: a point, its digits;");
        bad(".", 1);
        bad(". ", 1);
        digits(".1", 0, DECIMAL, 0, 1, 1);
        digits(".9", 0, DECIMAL, 0, 9, 1);
        bad("./", 1);
        bad(".:", 1);
        digits(".000001", 0, DECIMAL, 0, 1, 6);
        digits(".100001", 0, DECIMAL, 0, 100001, 6);
        digits(".999999", 0, DECIMAL, 0, 999999, 6);
        digits(".01", 0, DECIMAL, 0, 1, 2);
        bad(".0", 2);
        bad(".10", 3);
        bad(".100000", 7);
        bad(".1234567", 7);
        bad(".0000001", 7);
        good("1.1", 2);
        bad("1.", 2);
        bad("1.0", 3);
        good("1.123456", 2);
        bad("1.1234567", 8);
    }

    private static void year() {
        due.sentence("3 YEAR: 1000 .. 2999.");
        due.sentence("YEAR: y and four digits;");
        bad("y", 1);
        bad("y0999", 1);
        value("y1000", 0, 3, 1000);
        value("y1999", 0, 3, 1999);
        value("y2000", 0, 3, 2000);
        value("y2999", 0, 3, 2999);
        bad("y3000", 1);
        bad("y9999", 1);
        bad("y100", 4);
        bad("y100 ", 4);
        bad("y10000", 5);
        bad("y1/00", 2);
        bad("y10:0", 3);
        bad("y100A", 4);
        good("Y1000", 2);
        bad("x1000", 0);
        bad("z1000", 0);
    }

    private static void work() {
        due.sentence("4 WORK: a letter A .. Z and 1 to 5 digits, the last one no 0.");
        due.sentence("WORK: a point, the letter, its digits;");
        due.sentence("WORK: its letter, 1 .. 26");
        bad(".@1", 1);
        digits(".A1", 0, WORK, 1, 1, 1);
        digits(".Z9", 0, WORK, 26, 9, 1);
        bad(".[1", 1);
        bad(".a1", 1);
        bad(".A", 2);
        bad(".A0", 3);
        bad(".A/", 2);
        bad(".A:", 2);
        digits(".A00001", 0, WORK, 1, 1, 5);
        digits(".M99999", 0, WORK, 13, 99999, 5);
        bad(".A10", 4);
        bad(".A10000", 7);
        bad(".A123456", 7);
        bad(".AA1", 2);
    }

    private static void volumeAndCopy() {
        due.sentence("5 VOLUME, 6 COPY: 1 .. 999.");
        due.sentence("VOLUME: v, COPY: c, and digits, no 0 ahead.");
        for (String sign : new String[] {"v", "c"}) {
            int kind = sign.equals("v") ? VOLUME : COPY;
            bad(sign, 1);
            bad(sign + "0", 1);
            bad(sign + "01", 1);
            bad(sign + "001", 1);
            bad(sign + "/", 1);
            bad(sign + ":", 1);
            value(sign + "1", 0, kind, 1);
            value(sign + "9", 0, kind, 9);
            value(sign + "10", 0, kind, 10);
            value(sign + "100", 0, kind, 100);
            value(sign + "999", 0, kind, 999);
            bad(sign + "1000", 4);
            bad(sign + "9999", 4);
            bad("A " + sign + "0", 3);
        }
        bad("b1", 0);
        bad("d1", 0);
        bad("u1", 0);
        bad("w1", 0);
    }

    private static void lastParts() {
        due.sentence("A COPY is the last PART; a VOLUME is the last one, or right ahead of a COPY.");
        good("c1", 1);
        good("v1", 1);
        good("v1 c1", 2);
        bad("c1 v1", 2);
        bad("c1 c1", 2);
        bad("v1 v1", 3);
        for (int kind = LETTERS; kind < VOLUME; kind++) {
            good(LONGEST[kind] + " v1 c1", 3);
            bad("c1 " + LONGEST[kind], 2);
            bad("v1 " + LONGEST[kind], 3);
            bad("v1 c1 " + LONGEST[kind], 5);
        }
    }

    private static void blanks() {
        due.sentence("Ahead of each PART stands one blank (32), but not ahead of the first one, of WHOLE right behind LETTERS, and of DECIMAL right behind WHOLE, where none does.");
        for (int ahead = LETTERS; ahead <= COPY; ahead++) {
            String one = LONGEST[ahead];
            int end = one.length();
            bad(" " + one, 0);
            bad(one + " ", ahead == COPY ? end : end + 1);
            bad(one + (char) 31, end);
            bad(one + (char) 33, end);
            bad(one + (char) 0, end);
            bad(one + (char) 160, end);
            for (int kind = LETTERS; kind <= COPY; kind++) {
                pair(ahead, kind);
                bad(one + "  " + LONGEST[kind], ahead == COPY ? end : end + 1);
            }
        }
    }

    private static void pair(int ahead, int kind) {
        String joined = LONGEST[ahead] + LONGEST[kind];
        String parted = LONGEST[ahead] + " " + LONGEST[kind];
        int end = LONGEST[ahead].length();
        if (ahead == LETTERS && kind == WHOLE) {
            good(joined, 2);
            bad(parted, end + 1);
        } else if (ahead == WHOLE && kind == DECIMAL) {
            good(joined, 2);
            bad(parted, end + 2);
        } else {
            bad(joined, ahead == WHOLE && kind == WORK ? end + 1 : end);
            if (ahead == COPY) {
                bad(parted, end);
            } else if (ahead == VOLUME && kind != COPY) {
                bad(parted, end + 1);
            } else {
                good(parted, 2);
            }
        }
    }

    /** What a TEXT begins with is a TEXT, or has its FAULT at the end. */
    private static void prefixes() {
        due.sentence("FAULT: the place of the first byte with which no TEXT goes on (the end, too, as the length)");
        String[] texts = {"QA76.73 .J38 y2005 v2 c1", "ABC9999.123456 .A12345 y2999 .000001 v999 c999", "1 2 3.5 .A1 A A1", "0.000001 y1000 .Z99999"};
        for (String text : texts) {
            for (int n = 0; n <= text.length(); n++) {
                ShelfCart x = new ShelfCart();
                Due.feed(x, text);
                int mark = x.mark(n);
                due.is("the first " + n + " of '" + text + "'", x.fault(), mark == -1 ? n : -1);
                ShelfCart y = new ShelfCart();
                int wrong = Due.mark(y, text.substring(0, n) + "~");
                due.is("and a byte that is none", wrong, -1);
                due.is("and a byte that is none", y.fault(), n);
            }
            good(text, partsOf(text));
        }
    }

    private static int partsOf(String text) {
        int parts = text.split(" ").length;
        for (String word : text.split(" ")) {
            parts += word.matches("[A-Z]+[0-9].*") ? 1 : 0;
            parts += word.matches("[A-Z]*[0-9]+\\.[0-9]+") ? 1 : 0;
        }
        return parts;
    }

    private static void namedFaults() {
        due.sentence("so a digit or letter too many, the blank of a ninth PART, a blank behind a COPY, a 0 with which a VOLUME begins, a 3 with which a YEAR does;");
        bad("A12345", 5);
        bad("A1 .1", 4);
        bad("A1.1234567 c1", 9);
        bad("A .B123456", 9);
        bad("A v1234", 6);
        bad("A y12345", 7);
        bad("ABCD", 3);
        bad("A ABCD", 5);
        bad(".AB1", 2);
        bad("1 1 1 1 1 1 1 1 1", 15);
        bad("A c1 ", 4);
        bad("A c1 c2", 4);
        bad("A v0", 3);
        bad("A v012", 3);
        bad("A c0", 3);
        bad("A y3", 3);
        bad("A y3000", 3);
        bad("A y0", 3);
        due.sentence("of digits that end with 0 (DECIMAL, WORK) what stands behind them.");
        bad(".50", 3);
        bad(".50 c1", 3);
        bad(".50A", 3);
        bad(".500 c1", 4);
        bad("1.50 c1", 4);
        bad("A .B50", 6);
        bad("A .B50 c1", 6);
        bad("A .B50.5", 6);
        good(".501", 1);
        good("A .B501", 2);
    }

    private static void sixtyBytes() {
        due.sentence("A TEXT (at most 60 bytes)");
        due.sentence("NONE: a FAULT (a TEXT of more than 60 bytes: at 60, if none is ahead).");
        String seven = ".123456 .123456 .123456 .123456 .123456 .123456 .123456";
        good(seven + " .12", 8);
        good(seven + " .123", 8);
        bad(seven + " .1234", 60);
        bad(seven + " .12345", 60);
        bad(seven + " .123456", 60);
        bad(seven + " .1234567", 60);
        bad(seven + " .1230", 60);
        bad(seven + " .123 ", 60);
        bad(seven + " .12  ", 59);
        bad(seven + " .1 AB", 58);
        bad(seven + " ~1234", 56);
        good(seven + " v123", 8);
        bad(seven + " v12 c1", 59);
        good(seven + " c999", 8);
        bad(seven + " c9999", 60);
        ShelfCart x = new ShelfCart();
        Due.feed(x, seven + " .1234" + "\0".repeat(19));
        due.is("the first 60 of 80", x.mark(60), 0);
        due.is("written", Due.written(x, 0), seven + " .123");
        due.is("out(59)", x.out(59), '3');
        due.is("out(60)", x.out(60), -1);
        ShelfCart y = new ShelfCart();
        Due.feed(y, seven + " .123" + "\0".repeat(20));
        due.is("the first 80 of 80", y.mark(80), -1);
        due.is("its FAULT", y.fault(), 60);
    }

    private static void ahead(int way, String one, String other) {
        ShelfCart x = new ShelfCart();
        x.way(way);
        int a = Due.mark(x, one);
        int b = Due.mark(x, other);
        due.is("'" + one + "' and '" + other + "', WAY " + way, x.sorts(a, b), -1);
        due.is("'" + other + "' and '" + one + "', WAY " + way, x.sorts(b, a), 1);
        due.is("'" + one + "' and itself, WAY " + way, x.sorts(a, a), 0);
    }

    private static void sorted() {
        due.sentence("PARTS are held against one another from the first on; the first that differ tell: a missing one is ahead of any; of unlike KINDS the lesser one;");
        String[] kinds = {"A", "0", ".1", "y1000", ".A1", "v1", "c1"};
        for (int way = 0; way < 2; way++) {
            for (int a = 0; a < kinds.length; a++) {
                for (int b = a + 1; b < kinds.length; b++) {
                    ahead(way, LONGEST[a], kinds[b]);
                }
                if (a != WHOLE) {
                    ahead(way, "ABC", "ABC " + kinds[a]);
                }
            }
            ahead(way, "ABC", "ABC0");
            ahead(way, "A9999", "B");
            ahead(way, "A A A A A A A A", "A A A A A A A B");
            ahead(way, "A A A A A A A", "A A A A A A A A");
            due.sentence("LETTERS as words are (of A and AB A is ahead);");
            ahead(way, "A", "AA");
            ahead(way, "A", "AB");
            ahead(way, "AZZ", "B");
            ahead(way, "AZ", "B");
            ahead(way, "AZ", "AZA");
            ahead(way, "AAZ", "AB");
            ahead(way, "Y", "Z");
            ahead(way, "YZZ", "Z");
            ahead(way, "Z", "ZA");
            due.sentence("numbers by their values.");
            ahead(way, "9", "10");
            ahead(way, "999", "1000");
            ahead(way, "0", "9999");
            ahead(way, "y1000", "y2999");
            ahead(way, "v9", "v10");
            ahead(way, "v99", "v100");
            ahead(way, "c2", "c10");
            ahead(way, ".A99999", ".B1");
        }
    }

    private static void sortedByWays() {
        due.sentence("by WAY 0 digit by digit (a shorter row ahead of one that begins with it); by WAY 1 the shorter row ahead, else digit by digit. WAY is 0 at first.");
        for (String front : new String[] {".", "A1.", ".A", "A .Z"}) {
            ahead(0, front + "1", front + "11");
            ahead(0, front + "1", front + "10001");
            ahead(0, front + "15", front + "2");
            ahead(0, front + "00001", front + "0001");
            ahead(0, front + "09", front + "1");
            ahead(0, front + "12345", front + "12346");
            ahead(1, front + "1", front + "11");
            ahead(1, front + "2", front + "15");
            ahead(1, front + "9", front + "01");
            ahead(1, front + "9999", front + "00001");
            ahead(1, front + "12345", front + "12346");
            ahead(1, front + "01", front + "11");
        }
        ahead(0, ".1", ".100001");
        ahead(0, ".11", ".110001");
        ahead(0, ".111", ".111001");
        ahead(0, ".1111", ".111101");
        ahead(0, ".11111", ".111111");
        ahead(0, ".099999", ".1");
        ahead(0, ".109999", ".11");
        ahead(0, ".99999", ".999999");
        ahead(1, ".99999", ".000001");
        ShelfCart x = new ShelfCart();
        Due.marks(x, ".15|.2");
        due.is("WAY at first", x.count(7), 0);
        due.is("by WAY 0 at first", x.sorts(0, 1), -1);
    }

    private static void newObject() {
        due.sentence("No MARKS, SHELVES, BOOKS, no READING; WAY 0; the tape and OUT are empty; no images.");
        ShelfCart x = new ShelfCart();
        int[] counts = {0, 0, 0, 0, 0, -1, -1, 0};
        for (int what = 0; what < counts.length; what++) {
            due.is("count(" + what + ")", x.count(what), counts[what]);
        }
        due.is("the tape", x.mark(1), -3);
        due.is("OUT", x.out(0), -1);
        for (int k = 0; k < 4; k++) {
            due.no("again(" + k + ")", x.again(k));
        }
        due.is("the first of the tape", new ShelfCart().feed(0, 0, 0, 0, 0), 20);
    }

    private static void feed() {
        due.sentence("Twenty bytes come behind the tape, of each number the highest first: how many it has. NONE, and nothing comes, if there would be more than 80.");
        ShelfCart x = new ShelfCart();
        due.is("20", x.feed(0x41424320, 0x41424320, 0x41424320, 0x41424320, 0x41424320), 20);
        due.is("40", x.feed(0x41424320, 0x41424320, 0x41424320, 0x41424321, -1), 40);
        due.is("60", x.feed(-1, -1, -1, -1, -1), 60);
        due.is("80", x.feed(-1, -1, -1, -1, -1), 80);
        due.is("100", x.feed(0x41424320, 0x41424320, 0x41424320, 0x41424320, 0x41424320), -1);
        due.is("mark(81)", x.mark(81), -3);
        due.is("mark(80)", x.mark(80), -1);
        due.is("the blank of the ninth PART", x.fault(), 31);
        due.is("an empty tape", x.feed(0x41000000, 0, 0, 0, 0), 20);
        due.is("mark(1)", x.mark(1), 0);
        for (int place = 0; place < 20; place++) {
            ShelfCart y = new ShelfCart();
            byte[] bytes = "1 1 1 1 1 1 1 1234 1".getBytes();
            bytes[place] = (byte) 200;
            int[] five = new int[5];
            for (int k = 0; k < 20; k++) {
                five[k / 4] |= (bytes[k] & 255) << 24 - k % 4 * 8;
            }
            y.feed(five[0], five[1], five[2], five[3], five[4]);
            y.mark(20);
            due.is("byte " + place + " is above 127", y.fault(), Math.min(place, 18));
        }
    }

    private static void markLengths() {
        due.sentence("The first n bytes of the tape are a TEXT (the tape is taken): its MARK, made if it is not there. -3: n is not 0 .. as many as there are (the tape stays).");
        for (int fed = 0; fed <= 4; fed++) {
            int twenties = fed;
            due.taken("mark of a tape of " + 20 * fed, 0, 20 * fed, -3, n -> {
                ShelfCart x = new ShelfCart();
                for (int k = 0; k < twenties; k++) {
                    x.feed('A' << 24, 0, 0, 0, 0);
                }
                return x.mark(n);
            });
        }
        ShelfCart x = new ShelfCart();
        Due.feed(x, "ABC");
        due.is("mark(21)", x.mark(21), -3);
        due.is("mark(-1)", x.mark(-1), -3);
        due.is("the tape stays, and grows", x.feed(0, 0, 0, 0, 0), 40);
        due.is("mark(2)", x.mark(2), 0);
        due.is("what stood behind is not looked at", Due.written(x, 0), "AB");
        due.is("the tape is taken whole", x.mark(1), -3);
        due.is("an empty tape: mark(0)", x.mark(0), -1);
        due.is("its FAULT", x.fault(), 0);
        Due.feed(x, "ABC");
        due.is("mark(0)", x.mark(0), -1);
        due.is("the tape is taken by a FAULT", x.feed(0, 0, 0, 0, 0), 20);
        due.sentence("-2: there would be more than 200.");
        ShelfCart y = Scenes.allMarks();
        due.is("no such length is told first", y.mark(21), -3);
        due.is("a FAULT is told next", y.mark(3), -1);
        due.is("its FAULT", y.fault(), 2);
        due.is("more than 200", Due.mark(y, "A5"), -2);
        due.is("no FAULT", y.fault(), -1);
        due.is("the tape is taken", y.feed(0, 0, 0, 0, 0), 20);
    }

    private static void fault() {
        due.sentence("The place of the FAULT of the latest mark() that told NONE; NONE if the latest one told something else.");
        ShelfCart x = new ShelfCart();
        due.is("without a mark()", x.fault(), -1);
        Due.mark(x, "AB~");
        due.is("of a FAULT", x.fault(), 2);
        Due.feed(x, "C");
        due.is("feed() leaves it", x.fault(), 2);
        x.write(0);
        x.shelf(10, false);
        due.is("other calls leave it", x.fault(), 2);
        x.mark(21);
        due.is("behind -3", x.fault(), -1);
        x.mark(0);
        due.is("at the beginning", x.fault(), 0);
        Due.mark(x, "C");
        due.is("behind a new MARK", x.fault(), -1);
        Due.mark(x, "C~");
        due.is("of a FAULT", x.fault(), 1);
        Due.mark(x, "C");
        due.is("behind an old MARK", x.fault(), -1);
    }

    private static void count() {
        due.sentence("0 MARKS, 1 SHELVES, 2 BOOKS, 3 LISTED MARKS, 4 GROWTHS, 5 MARKS in the READING at hand (NONE without one), 6 the shelf of that (NONE), 7 WAY. NONE for another what.");
        due.taken("count", 0, 7, -1, Scenes.busy()::count);
        ShelfCart x = Scenes.unread();
        due.is("count(5)", x.count(5), -1);
        due.is("count(6)", x.count(6), -1);
        x.run(0, false);
        due.is("count(5) of no MARKS", x.count(5), 0);
        due.is("count(6) of shelf 0", x.count(6), 0);
    }

    private static void part() {
        due.sentence("0 for what it has not. NONE if there is none such, or for another what.");
        ShelfCart x = new ShelfCart();
        Due.marks(x, "A1.5 .B1 y1000 .5 v1 c1|B|A B");
        due.taken("part of a MARK", 0, 2, -1, mark -> x.part(mark, 0, 0));
        due.taken("part k of 8", 0, 7, -1, k -> x.part(0, k, 0));
        due.taken("part k of 1", 0, 0, -1, k -> x.part(1, k, 0));
        due.taken("part k of 2", 0, 1, -1, k -> x.part(2, k, 1));
        due.taken("part, what", 0, 3, -1, what -> x.part(0, 2, what));
        due.is("of LETTERS no digits", x.part(1, 0, 2), 0);
        due.is("of LETTERS no digits", x.part(1, 0, 3), 0);
        due.is("of DECIMAL no value", x.part(0, 2, 1), 0);
        due.is("of a MARK that is none, another what", x.part(3, 0, 4), -1);
    }

    private static void writeAndOut() {
        due.sentence("OUT is the TEXT of a MARK: how many bytes. NONE, and OUT stays, if there is none such.");
        due.sentence("Byte i of OUT; NONE if there is none such.");
        ShelfCart x = new ShelfCart();
        Due.marks(x, "AB1|C");
        due.is("an empty OUT", x.out(0), -1);
        due.is("write of none such", x.write(2), -1);
        due.is("OUT stays empty", x.out(0), -1);
        due.is("write(0)", x.write(0), 3);
        due.taken("out", 0, 2, -1, x::out);
        due.taken("write", 0, 1, -1, mark -> {
            ShelfCart y = new ShelfCart();
            Due.marks(y, "AB1|C");
            return y.write(mark);
        });
        due.is("write(2)", x.write(2), -1);
        due.is("write(-1)", x.write(-1), -1);
        due.is("OUT stays", x.out(2), '1');
        due.is("write(1)", x.write(1), 1);
        due.is("a shorter OUT", x.out(1), -1);
    }

    private static void way() {
        due.sentence("WAY from now on: true; false for another one.");
        ShelfCart x = new ShelfCart();
        due.taken("way", 0, 1, 0, way -> Due.number(x.way(way)));
        due.is("the last one that was taken", x.count(7), 1);
        x.way(0);
        x.way(2);
        x.way(-1);
        due.is("refused ones leave it", x.count(7), 0);
    }

    private static void sorts() {
        due.sentence("Whether a is ahead of b (-1), behind (1), or neither (0), SORTED. -2: one is no MARK.");
        ShelfCart x = new ShelfCart();
        due.is("without MARKS", x.sorts(0, 0), -2);
        Due.marks(x, "A|B|C");
        due.taken("sorts, the first", 0, 2, -2, a -> x.sorts(a, 1));
        due.taken("sorts, the second", 0, 2, -2, b -> x.sorts(1, b));
        due.is("both are none", x.sorts(3, -1), -2);
        due.is("both are none, and the same", x.sorts(3, 3), -2);
    }
}
