/** Promises 1 to 10: a new object, the tape, MARKS, WAY. */
public final class MarksTest {
    private static final Due due = new Due("MarksTest");

    public static void main(String[] args) {
        newObject();
        tape();
        textsThatAreMarks();
        faults();
        longTexts();
        refusals();
        manyMarks();
        parts();
        writing();
        wayZero();
        wayOne();
        due.end();
    }

    private static void newObject() {
        ShelfCart x = new ShelfCart();
        int[] counts = {0, 0, 0, 0, 0, -1, -1, 0, -1};
        for (int what = 0; what < counts.length; what++) {
            due.is("new: count(" + what + ")", x.count(what), counts[what]);
        }
        due.is("new: count(-1)", x.count(-1), -1);
        due.is("new: fault()", x.fault(), -1);
        due.is("new: out(0)", x.out(0), -1);
        due.is("new: write(0)", x.write(0), -1);
        due.is("new: part(0, 0, 0)", x.part(0, 0, 0), -1);
        due.is("new: sorts(0, 0)", x.sorts(0, 0), -2);
        due.is("new: read(0)", x.read(0), -1);
        due.is("new: fewest()", x.fewest(), -1);
        due.is("new: order(true, 0)", x.order(true, 0), -1);
        due.is("new: order(false, 0)", x.order(false, 0), -1);
        due.is("new: done()", x.done(), -1);
        due.is("new: full()", x.full(), -1);
        due.is("new: plan(0)", x.plan(0), -1);
        due.no("new: lift()", x.lift());
        for (int k = -1; k <= 4; k++) {
            due.no("new: again(" + k + ")", x.again(k));
        }
        due.is("new: mark(1)", x.mark(1), -3);
    }

    private static void tape() {
        ShelfCart x = new ShelfCart();
        due.is("feed 1", x.feed('A' << 24, 0, 0, 0, 0), 20);
        due.is("feed 2", x.feed(0, 0, 0, 0, 0), 40);
        due.is("feed 3", x.feed(0, 0, 0, 0, 0), 60);
        due.is("feed 4", x.feed(0, 0, 0, 0, 0), 80);
        due.is("feed 5", x.feed(0, 0, 0, 0, 0), -1);
        due.is("a full tape: mark(81)", x.mark(81), -3);
        due.is("a full tape: feed", x.feed(0, 0, 0, 0, 0), -1);
        due.is("a full tape: mark(1)", x.mark(1), 0);
        due.is("a tape is taken whole", x.mark(1), -3);
        due.is("feed after that", x.feed(0, 0, 0, 0, 0), 20);

        ShelfCart order = new ShelfCart();
        order.feed(0x41424331, 0x3233342E, 0x35363738, 0x39312E41, 0x31323334);
        due.is("bytes in order: ABC1234.567891.A1234", order.mark(14), 0);
        due.is("bytes in order", Due.written(order, 0), "ABC1234.567891");
        order.feed(0x3120792D, 0, 0, 0, 0);
        due.is("byte 3", order.mark(4), -1);
        due.is("byte 3", order.fault(), 3);
        order.feed(0x41FFFFFF, -1, -1, -1, -1);
        due.is("byte 255", order.mark(20), -1);
        due.is("byte 255", order.fault(), 1);
    }

    private static void textsThatAreMarks() {
        ShelfCart x = new ShelfCart();
        String[] texts = {
            "A", "Z", "AB", "ABC", "ZZZ", "0", "9", "10", "9999", "A0", "ABC9999", ".5", ".000001", ".123456", ".05", "1.5", "0.1",
            "A0.000001", "y1000", "y1999", "y2000", "y2999", ".A1", ".Z99999", ".A00001", "v1", "v10", "v999", "c1", "c999", "v1 c1",
            "A B", "A ABC", "1 2", "1 0", "1.5 2.5", "A .5", "1 .A1", "A .A1", "1 A", "1 y1000", ".5 .5", ".5 1", ".A1 .A1", ".A1 1",
            ".A1 .5", "y1000 y1000", "y1000 0", "y1000 A1", "y1000 .5", "1 c1", "A c1", "1.5 c1", "A B1.5", "A A A A A A A A",
            "1 1 1 1 1 1 1 1", "A A A A A A v1 c1", "A A A A A A A v1", "A1.5 .A1 y1999 .5 v1 c1", "QA76.73 .J38 y2005 v2 c1",
        };
        for (int k = 0; k < texts.length; k++) {
            due.is("mark '" + texts[k] + "'", Due.mark(x, texts[k]), k);
            due.is("fault of '" + texts[k] + "'", x.fault(), -1);
            due.is("written", Due.written(x, k), texts[k]);
        }
        for (int k = texts.length - 1; k >= 0; k--) {
            due.is("mark again '" + texts[k] + "'", Due.mark(x, texts[k]), k);
        }
        due.is("count(0)", x.count(0), texts.length);
    }

    private static void faults() {
        fault("", 0);
        fault(" ", 0);
        fault(" A", 0);
        fault("a", 0);
        fault("-", 0);
        fault("\0", 0);
        fault("A\0", 1);
        fault("ABCD", 3);
        fault("ABCD1", 3);
        fault("Aa", 1);
        fault("A ", 2);
        fault("A  B", 2);
        fault("A 1", 2);
        fault("A.5", 1);
        fault("Ay1999", 1);
        fault("00", 1);
        fault("01", 1);
        fault("12345", 4);
        fault("A12345", 5);
        fault("A01", 2);
        fault("1A", 1);
        fault("1y1999", 1);
        fault("1 .5", 3);
        fault("1.A1", 2);
        fault("1. ", 2);
        fault("1.", 2);
        fault(".", 1);
        fault("..", 1);
        fault(".a", 1);
        fault(". 5", 1);
        fault(".0", 2);
        fault(".50", 3);
        fault(".50 A", 3);
        fault(".5A", 2);
        fault(".5.5", 2);
        fault(".1234567", 7);
        fault(".1234560", 7);
        fault(".1234500", 7);
        fault(".123450", 7);
        fault(".000000", 7);
        fault(".A", 2);
        fault(".A ", 2);
        fault(".AB", 2);
        fault(".A0", 3);
        fault(".A10 c1", 4);
        fault(".A123456", 7);
        fault(".A12340", 7);
        fault(".A1A", 3);
        fault(".A1.5", 3);
        fault("y", 1);
        fault("y0999", 1);
        fault("y3000", 1);
        fault("y9", 1);
        fault("y1", 2);
        fault("y19", 3);
        fault("y199", 4);
        fault("y199 ", 4);
        fault("y19999", 5);
        fault("yy", 1);
        fault("v", 1);
        fault("v0", 1);
        fault("v01", 1);
        fault("vA", 1);
        fault("v1000", 4);
        fault("v1 ", 3);
        fault("v1 v2", 3);
        fault("v1 A", 3);
        fault("v1 1", 3);
        fault("v1 .5", 3);
        fault("v1c1", 2);
        fault("c", 1);
        fault("c0", 1);
        fault("c1000", 4);
        fault("c1 ", 2);
        fault("c1 c2", 2);
        fault("c1 v1", 2);
        fault("A c1 A", 4);
        fault("A v1 c1 ", 7);
        fault("A A A A A A A A A", 15);
        fault("A A A A A A A A ", 15);
        fault("A A A A A A A A1", 15);
        fault("1 1 1 1 1 1 1 1.5", 15);
        fault("A A A A A A A v1 c1", 16);
        fault("V1" + (char) 200, 2);
        fault("A" + (char) (32 + 128) + "B", 1);
    }

    private static void fault(String text, int place) {
        ShelfCart x = new ShelfCart();
        due.is("mark '" + text + "'", Due.mark(x, text), -1);
        due.is("fault of '" + text + "'", x.fault(), place);
        due.is("no MARK is made of '" + text + "'", x.count(0), 0);
        due.is("the tape is taken of '" + text + "'", x.mark(1), -3);
    }

    private static void longTexts() {
        String seven = ".123456 .123456 .123456 .123456 .123456 .123456 .123456";
        ShelfCart x = new ShelfCart();
        due.is("60 bytes", Due.mark(x, seven + " .123"), 0);
        due.is("60 bytes, written", Due.written(x, 0), seven + " .123");
        fault(seven + " .1234", 60);
        fault(seven + " .123456", 60);
        fault(seven + " .1230", 60);
        fault(seven + " .12300", 60);
        fault(seven + " .B12345", 60);
        fault(seven + " y2005", 60);
        fault(seven + " .1234 A", 60);
        fault(seven + " .123456789", 60);
        fault(seven + " .120", 60);
        fault(seven + " .120 c1", 60);
        fault(seven + " .12 A4567", 59);
        fault(seven + " .10 A4567", 59);
        fault(seven + "  A4567890", 56);
        fault("a" + seven + " .123456", 0);
    }

    private static void refusals() {
        ShelfCart x = new ShelfCart();
        Due.mark(x, "A ");
        due.is("fault", x.fault(), 2);
        due.is("fault again", x.fault(), 2);
        due.is("mark(-1)", x.mark(-1), -3);
        due.is("fault behind -3", x.fault(), -1);
        Due.feed(x, "A");
        due.is("mark(21)", x.mark(21), -3);
        due.is("mark(max)", x.mark(Integer.MAX_VALUE), -3);
        due.is("mark(min)", x.mark(Integer.MIN_VALUE), -3);
        due.is("the tape stays", x.mark(1), 0);
        Due.feed(x, "A");
        due.is("mark(0)", x.mark(0), -1);
        due.is("fault of nothing", x.fault(), 0);
        due.is("a FAULT takes the tape", x.mark(1), -3);
        Due.mark(x, "B ");
        Due.mark(x, "B");
        due.is("fault behind a MARK", x.fault(), -1);
    }

    private static void manyMarks() {
        ShelfCart x = new ShelfCart();
        for (int k = 0; k < 200; k++) {
            due.is("mark " + k, Due.mark(x, "" + k), k);
        }
        due.is("the 201st", Due.mark(x, "A"), -2);
        due.is("fault of -2", x.fault(), -1);
        due.is("the tape is taken", x.mark(1), -3);
        due.is("a FAULT is told ahead", Due.mark(x, "A "), -1);
        due.is("fault", x.fault(), 2);
        due.is("one that is there", Due.mark(x, "199"), 199);
        due.is("count(0)", x.count(0), 200);
        due.is("written", Due.written(x, 199), "199");
        due.is("part(200, 0, 0)", x.part(200, 0, 0), -1);
    }

    private static void parts() {
        ShelfCart x = new ShelfCart();
        Due.marks(x, "A|ZZZ|AB9999.000102 .Z00305 y2999 v999 c1");
        part(x, 0, 0, 0, 1, 0, 0);
        part(x, 1, 0, 0, 19682, 0, 0);
        part(x, 2, 0, 0, 29, 0, 0);
        part(x, 2, 1, 1, 9999, 0, 0);
        part(x, 2, 2, 2, 0, 102, 6);
        part(x, 2, 3, 4, 26, 305, 5);
        part(x, 2, 4, 3, 2999, 0, 0);
        part(x, 2, 5, 5, 999, 0, 0);
        part(x, 2, 6, 6, 1, 0, 0);
        part(x, 2, 7, -1, -1, -1, -1);
        part(x, 2, 8, -1, -1, -1, -1);
        part(x, 2, -1, -1, -1, -1, -1);
        part(x, 0, 1, -1, -1, -1, -1);
        part(x, 3, 0, -1, -1, -1, -1);
        part(x, -1, 0, -1, -1, -1, -1);
        part(x, Integer.MAX_VALUE, Integer.MAX_VALUE, -1, -1, -1, -1);
        part(x, Integer.MIN_VALUE, Integer.MIN_VALUE, -1, -1, -1, -1);
        due.is("part(0, 0, 4)", x.part(0, 0, 4), -1);
        due.is("part(0, 0, -1)", x.part(0, 0, -1), -1);
    }

    private static void part(ShelfCart x, int mark, int k, int... wanted) {
        for (int what = 0; what < 4; what++) {
            due.is("part(" + mark + ", " + k + ", " + what + ")", x.part(mark, k, what), wanted[what]);
        }
    }

    private static void writing() {
        ShelfCart x = new ShelfCart();
        Due.marks(x, "QA76.73 .J038 y2005 v20 c1|B");
        due.is("write(1)", x.write(1), 1);
        due.is("out(0)", x.out(0), 'B');
        due.is("out(1)", x.out(1), -1);
        due.is("write(0)", x.write(0), 26);
        due.is("write(2)", x.write(2), -1);
        due.is("write(-1)", x.write(-1), -1);
        due.is("OUT stays", x.out(25), '1');
        due.is("out(26)", x.out(26), -1);
        due.is("out(-1)", x.out(-1), -1);
        due.is("out(max)", x.out(Integer.MAX_VALUE), -1);
        due.is("write(1)", x.write(1), 1);
        due.is("a shorter OUT", x.out(1), -1);
    }

    /** Each text is ahead of all that stand behind it. */
    private static void sorted(ShelfCart x, String... texts) {
        int[] marks = new int[texts.length];
        for (int k = 0; k < texts.length; k++) {
            marks[k] = Due.mark(x, texts[texts.length - 1 - k]);
        }
        for (int a = 0; a < texts.length; a++) {
            for (int b = 0; b < texts.length; b++) {
                int got = x.sorts(marks[texts.length - 1 - a], marks[texts.length - 1 - b]);
                due.is("sorts '" + texts[a] + "', '" + texts[b] + "'", got, Integer.compare(a, b));
            }
        }
    }

    private static void wayZero() {
        sorted(new ShelfCart(), "A", "A A", "A A1", "A0", "A1", "A1 1", "A1.00001", "A1.05", "A1.1", "A1.100001", "A1.100002", "A1.123455", "A1.123456", "A1.15", "A1.5", "A1.5 A", "A1.5 c1",
            "A1 y1000", "A1 y2999", "A1 .A05", "A1 .A1", "A1 .A12345", "A1 .A12346", "A1 .A15", "A1 .A5", "A1 .B1", "A1 v1", "A1 v1 c1", "A1 v1 c2", "A1 v2", "A1 v10",
            "A1 c1", "A1 c2", "A1 c10", "A2", "A10", "A9999", "A .5", "A y1000", "A c1", "AA", "AAA", "AAB", "AB", "ABC", "AZ",
            "AZZ", "B", "BA", "Z", "ZZZ", "0", "5", "40", "40.1", "40 c1", ".1", "y1000", ".A1", "v1", "c1");
        ShelfCart x = new ShelfCart();
        Due.marks(x, "A|B");
        due.is("sorts(0, 2)", x.sorts(0, 2), -2);
        due.is("sorts(2, 0)", x.sorts(2, 0), -2);
        due.is("sorts(-1, 0)", x.sorts(-1, 0), -2);
        due.is("sorts(1, 0)", x.sorts(1, 0), 1);
        due.is("sorts(1, 1)", x.sorts(1, 1), 0);
    }

    private static void wayOne() {
        ShelfCart x = new ShelfCart();
        due.yes("way(1)", x.way(1));
        due.is("count(7)", x.count(7), 1);
        sorted(x, "A", "A1", "A1.1", "A1.5", "A1.5 A", "A1.05", "A1.15", "A1.51", "A1.005", "A1.00001", "A1.000001", "A1 y1000", "A1 .A1",
            "A1 .A5", "A1 .A05", "A1 .A15", "A1 .A111", "A1 .B1", "A1 .B5", "A1 .B00001", "A2", "AB", "B", "1", "10", ".9", ".9 .9", ".11", "c1");
        due.no("way(2)", x.way(2));
        due.no("way(-1)", x.way(-1));
        due.is("count(7) stays", x.count(7), 1);
        due.yes("way(0)", x.way(0));
        due.is("count(7)", x.count(7), 0);
        int fifteen = Due.mark(x, ".15");
        int five = Due.mark(x, ".5");
        due.is("by WAY 0", x.sorts(fifteen, five), -1);
        due.yes("way(1)", x.way(1));
        due.yes("way(1) again", x.way(1));
        due.is("by WAY 1", x.sorts(fifteen, five), 1);
    }
}
