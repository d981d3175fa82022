/** Term 5 and promises 35 to 37, sentence by sentence: what is just taken, what just not. */
public final class EdgesOfFloorsTest {
    private static final Due due = new Due("EdgesOfFloorsTest");

    public static void main(String[] args) {
        floorsAndParts();
        whatIsAtHandStays();
        rowOfTheFloor();
        allAtTheLast();
        greatestPart();
        greatestPartCut();
        leastPart();
        leastPartCut();
        leastPartNotAsked();
        thirtyOnAShelf();
        worksOfAFloor();
        workNotParted();
        narrowestShelf();
        worksNextToOneAnother();
        severalWorks();
        twoHundredBooks();
        fewestChanged();
        leastNumbers();
        plan();
        liftWithoutGaps();
        liftAsItWas();
        liftNotAsItWas();
        due.end();
    }

    /** COMMON shelves of these widths, and MARKS A0 .. A9. */
    private static ShelfCart floor(int... widths) {
        ShelfCart x = new ShelfCart();
        for (int width : widths) {
            x.shelf(width, false);
        }
        Due.marks(x, "A0|A1|A2|A3|A4|A5|A6|A7|A8|A9");
        return x;
    }

    /** PLAIN BOOKS of these widths on a shelf, from PLACE 0 on; of ten that come one behind the other no two MARKS are alike. */
    private static void fill(ShelfCart x, int shelf, int... widths) {
        for (int k = 0; k < widths.length; k++) {
            Due.standing(x, x.count(2) % 10, widths[k], shelf, k);
        }
    }

    /** What shift() tells of the FLOOR of all shelves, and the PLAN that it makes. */
    private static String shifted(ShelfCart x, int least, int greatest) {
        int changed = x.shift(0, x.count(1) - 1, least, greatest);
        return changed == -1 ? "none" : changed + ":" + planOf(x);
    }

    private static String planOf(ShelfCart x) {
        StringBuilder row = new StringBuilder();
        for (int k = 0; x.plan(k) != -1; k++) {
            row.append(' ').append(x.plan(k));
        }
        return row.toString();
    }

    /** Shelves 1 to 3 are a FLOOR between HIGH ones, 0 and 4. */
    private static ShelfCart betweenHighOnes() {
        ShelfCart x = new ShelfCart();
        for (int k = 0; k < 5; k++) {
            x.shelf(100, k % 4 == 0);
        }
        Due.marks(x, "A0|A1");
        Due.standing(x, 0, 10, 1, 0);
        Due.standing(x, 1, 10, 3, 29);
        return x;
    }

    private static void floorsAndParts() {
        due.sentence("A FLOOR is COMMON shelves from one to another (one behind the other, by number).");
        due.sentence("NONE, and what was at hand stays: there is none; a shelf is none or HIGH, the second one is less than the first; the parts are not 0 .. 100, or the first one is greater.");
        due.taken("the first, up to 3", 1, 3, -1, first -> betweenHighOnes().shift(first, 3, 0, 100));
        due.taken("the first, up to 2", 1, 2, -1, first -> betweenHighOnes().shift(first, 2, 0, 100));
        due.taken("the second, from 1 on", 1, 3, -1, last -> betweenHighOnes().shift(1, last, 0, 100));
        due.taken("the second, from 2 on", 2, 3, -1, last -> betweenHighOnes().shift(2, last, 0, 100));
        due.taken("the least part, up to 100", 0, 100, -1, least -> betweenHighOnes().shift(1, 3, least, 100));
        due.taken("the least part, up to 50", 0, 50, -1, least -> betweenHighOnes().shift(1, 3, least, 50));
        due.taken("the greatest part, of nothing", 0, 100, -1, greatest -> betweenHighOnes().shift(2, 2, 0, greatest));
        due.taken("the greatest part, from 50 on", 50, 100, -1, greatest -> betweenHighOnes().shift(1, 3, 50, greatest));
        due.taken("both parts alike", 0, 100, -1, part -> betweenHighOnes().shift(2, 2, part, part));
        due.is("a HIGH shelf between", betweenHighOnes().shift(0, 4, 0, 100), -1);
        ShelfCart x = floor(100, 100);
        x.shelf(100, true);
        x.shelf(100, false);
        due.is("a HIGH shelf between COMMON ones", x.shift(0, 3, 0, 100), -1);
        due.is("behind it", x.shift(3, 3, 0, 100), 0);
        due.is("no shelves", new ShelfCart().shift(0, 0, 0, 100), -1);
        ShelfCart y = new ShelfCart();
        for (int k = 0; k < 16; k++) {
            y.shelf(100, false);
        }
        due.taken("the second of 16", 0, 15, -1, last -> y.shift(0, last, 0, 100));
        due.taken("the first of 16", 0, 15, -1, first -> y.shift(first, 15, 0, 100));
    }

    private static void whatIsAtHandStays() {
        ShelfCart x = floor(100, 100, 100);
        fill(x, 0, 60, 60);
        due.is("a PLAN", shifted(x, 0, 100), "1: 1 1 2");
        due.is("there is none", x.shift(0, 0, 0, 100), -1);
        due.is("it stays", planOf(x), " 1 1 2");
        due.is("no such shelf", x.shift(0, 3, 0, 100), -1);
        due.is("the second one is less", x.shift(1, 0, 0, 100), -1);
        due.is("parts", x.shift(0, 1, 0, 101), -1);
        due.is("parts", x.shift(0, 1, 2, 1), -1);
        due.is("it stays", planOf(x), " 1 1 2");
        due.yes("it is carried out", x.lift());
        due.is("shelf 2", Due.stacked(x, 2), "0:1");
        due.is("there is none", x.shift(0, 2, 0, 59), -1);
        due.is("none is at hand", planOf(x), "");
        due.is("another one", x.shift(1, 2, 0, 100), 0);
        due.is("another one", planOf(x), " 0 1");
        ShelfCart y = floor(100, 100, 100, 100);
        fill(y, 0, 60, 60);
        fill(y, 2, 90, 90, 90);
        due.is("a PLAN of two", y.shift(0, 1, 0, 100), 1);
        due.is("of the other two there is none", y.shift(2, 3, 0, 100), -1);
        due.yes("the first is carried out", y.lift());
        due.is("shelf 0", Due.stacked(y, 0), "0:0");
        due.is("shelf 1", Due.stacked(y, 1), "0:1");
        due.is("shelf 2", Due.stacked(y, 2), "0:2 1:3 2:4");
    }

    private static void rowOfTheFloor() {
        due.sentence("Its BOOKS are those there, shelf by shelf, PLACE by PLACE, DUMMIES too (as what they are).");
        ShelfCart x = floor(100, 100);
        x.shelf(300, true);
        int last = Due.standing(x, 0, 60, 0, 29);
        int first = Due.standing(x, 1, 40, 0, 0);
        int second = Due.standing(x, 2, 90, 1, 5);
        int tall = x.book(1, 3, 200, 0);
        x.stand(tall, 2, 0);
        x.dummy(tall, 0, 7);
        due.is("40, a DUMMY of 5, 60, then 90", x.shift(0, 1, 0, 100), -1);
        x.off(last);
        last = Due.standing(x, 0, 55, 0, 29);
        due.is("40, 5, 55, then 90", x.shift(0, 1, 0, 100), 0);
        due.is("three end with the first", planOf(x), " 3 4");
        due.yes("lift", x.lift());
        due.is("by PLACES", Due.stacked(x, 0), "0:" + first + " 1:" + (1000 + tall) + " 2:" + last);
        due.is("shelf 1", Due.stacked(x, 1), "0:" + second);
    }

    private static void allAtTheLast() {
        due.sentence("A PLAN tells of each shelf how many of these (from the first on) end with it: all, at the last one;");
        due.is("nothing stands", shifted(floor(100), 0, 100), "0: 0");
        due.is("nothing stands on three", shifted(floor(100, 100, 100), 100, 100), "0: 0 0 0");
        ShelfCart x = floor(100, 100, 100);
        fill(x, 0, 10, 10);
        fill(x, 2, 10);
        due.is("as they stand", shifted(x, 0, 100), "0: 2 2 3");
        ShelfCart y = floor(100);
        fill(y, 0, 30, 30, 30);
        due.is("one shelf", shifted(y, 0, 100), "0: 3");
    }

    private static String oneShelf(int width, int book, int least, int greatest) {
        ShelfCart x = floor(width);
        fill(x, 0, book);
        return shifted(x, least, greatest);
    }

    private static void greatestPart() {
        due.sentence("so that on each shelf what comes there is at most a told part of its width (percent, cut),");
        due.is("60 of 60", oneShelf(100, 60, 0, 60), "0: 1");
        due.is("61 of 60", oneShelf(100, 61, 0, 60), "none");
        due.is("100 of 100", oneShelf(100, 100, 0, 100), "0: 1");
        due.is("101 of 100", oneShelf(100, 101, 0, 100), "none");
        due.is("1 of 1", oneShelf(100, 1, 0, 1), "0: 1");
        due.is("2 of 1", oneShelf(100, 2, 0, 1), "none");
        due.is("1 of 0", oneShelf(100, 1, 0, 0), "none");
        ShelfCart x = floor(100, 200);
        fill(x, 0, 60, 20);
        due.is("each shelf by its own width: 80", shifted(x, 0, 80), "0: 2 2");
        due.is("each shelf by its own width: 60", shifted(x, 0, 79), "1: 1 2");
        due.is("each shelf by its own width: none on the first", shifted(x, 0, 59), "2: 0 2");
        due.is("each shelf by its own width: 40 percent of 200", shifted(x, 0, 40), "2: 0 2");
        due.is("39 percent of 200", shifted(x, 0, 39), "none");
        ShelfCart boxed = floor(100);
        boxed.stand(boxed.book(3, 0, 50, 0), 0, 0);
        due.is("a BOXED one of 50 takes 60", shifted(boxed, 0, 60), "0: 1");
        due.is("a BOXED one of 50 takes 60", shifted(boxed, 0, 59), "none");
    }

    private static void greatestPartCut() {
        due.is("50 percent of 199", oneShelf(199, 99, 0, 50), "0: 1");
        due.is("50 percent of 199", oneShelf(199, 100, 0, 50), "none");
        due.is("99 percent of 101", oneShelf(101, 99, 0, 99), "0: 1");
        due.is("99 percent of 101", oneShelf(101, 100, 0, 99), "none");
        due.is("10 percent of 1999", oneShelf(1999, 199, 0, 10), "0: 1");
        due.is("10 percent of 1999", oneShelf(1999, 200, 0, 10), "none");
        due.is("10 percent of 2000", oneShelf(2000, 200, 0, 10), "0: 1");
    }

    /** BOOKS of 30 and 40 on the first of two shelves, of one width on the second. */
    private static ShelfCart thirtyAndForty(int width) {
        ShelfCart x = floor(100, 100);
        fill(x, 0, 30, 40);
        fill(x, 1, width);
        return x;
    }

    private static void leastPart() {
        due.sentence("at least another one (but not where nothing comes, and not on the last shelf on which something does),");
        due.is("70 are enough for 70", shifted(thirtyAndForty(80), 70, 100), "0: 2 3");
        due.is("70 are not enough for 71", shifted(thirtyAndForty(80), 71, 100), "none");
        due.is("but with one of 20", shifted(thirtyAndForty(20), 71, 100), "1: 3 3");
        due.is("90 are enough for 90", shifted(thirtyAndForty(20), 90, 100), "1: 3 3");
        due.is("90, all, are enough for 91: it is the last one on which something comes", shifted(thirtyAndForty(20), 91, 100), "1: 3 3");
        due.is("0 is always reached", shifted(thirtyAndForty(80), 0, 100), "0: 2 3");
    }

    private static void leastPartCut() {
        ShelfCart x = floor(199, 199);
        fill(x, 0, 99);
        fill(x, 1, 150);
        due.is("50 percent of 199 are 99", shifted(x, 50, 100), "0: 1 2");
        due.is("51 percent are 101", shifted(x, 51, 100), "none");
        ShelfCart y = floor(199, 199);
        fill(y, 0, 98);
        fill(y, 1, 150);
        due.is("98 are not 99", shifted(y, 50, 100), "none");
        due.is("49 percent are 97", shifted(y, 49, 100), "0: 1 2");
        ShelfCart z = floor(199, 100);
        fill(z, 0, 70);
        fill(z, 1, 90);
        due.is("each by its own width: 35 percent of 199 are 69", shifted(z, 35, 90), "0: 1 2");
        due.is("36 percent of 199 are 71: both on the first one", shifted(z, 36, 90), "1: 2 2");
    }

    private static void leastPartNotAsked() {
        ShelfCart x = floor(100, 100, 100);
        fill(x, 1, 1);
        due.is("nothing comes to the others, and it is the last one", shifted(x, 100, 100), "0: 0 1 1");
        ShelfCart y = floor(100, 100, 100);
        fill(y, 0, 100);
        fill(y, 2, 1);
        due.is("nothing comes between", shifted(y, 100, 100), "0: 1 1 2");
        ShelfCart z = floor(100, 100, 100);
        fill(z, 0, 99);
        fill(z, 2, 2);
        due.is("99 are not 100, and not the last ones", shifted(z, 100, 100), "none");
        due.is("99 are 99", shifted(z, 99, 100), "0: 1 1 2");
    }

    /** BOOKS of 10 on a shelf 2000 wide, and one behind them on one that is 100 wide. */
    private static String manyAndOne(int many, int width) {
        ShelfCart x = floor(2000, 100);
        for (int k = 0; k < many; k++) {
            Due.standing(x, k % 10, 10, 0, k);
        }
        Due.standing(x, many % 10, width, 1, 0);
        return shifted(x, 0, 20);
    }

    private static void thirtyOnAShelf() {
        due.sentence("at most 30 of them,");
        due.is("30 and one of 20", manyAndOne(30, 20), "0: 30 31");
        due.is("29 and one of 21, which has no room on its shelf", manyAndOne(29, 21), "1: 30 30");
        due.is("30 and one of 21: 31 are too many", manyAndOne(30, 21), "none");
        ShelfCart x = floor(2000, 2000, 2000);
        for (int k = 0; k < 30; k++) {
            Due.standing(x, k % 10, 10, 0, k);
            Due.standing(x, k % 10, 10, 1, k);
        }
        due.is("15 percent are 30 on each", shifted(x, 15, 100), "0: 30 60 60");
        due.is("16 percent are 32", shifted(x, 16, 100), "none");
    }

    /** Two BOOKS of these MARKS, of 40 each, on two shelves. */
    private static String twoOfThem(String one, String other) {
        ShelfCart x = new ShelfCart();
        x.shelf(100, false);
        x.shelf(100, false);
        Due.marks(x, one + "|" + other);
        Due.standing(x, 0, 40, 0, 0);
        Due.standing(x, x.count(0) - 1, 40, 1, 0);
        return shifted(x, 0, 100);
    }

    private static void worksOfAFloor() {
        due.sentence("A WORK are those next to one another whose MARKS are alike, VOLUMES and COPIES aside.");
        String together = "1: 0 2";
        String apart = "0: 1 2";
        due.is("the same MARK", twoOfThem("A1 .B1", "A1 .B1"), together);
        due.is("another VOLUME", twoOfThem("A1 v1", "A1 v2"), together);
        due.is("another COPY", twoOfThem("A1 c1", "A1 c2"), together);
        due.is("VOLUME and COPY", twoOfThem("A1 v1 c1", "A1 v2 c2"), together);
        due.is("a VOLUME more", twoOfThem("A1", "A1 v2"), together);
        due.is("a COPY more", twoOfThem("A1 c1", "A1"), together);
        due.is("both more", twoOfThem("A1", "A1 v1 c1"), together);
        due.is("a VOLUME, a COPY", twoOfThem("A1 v1", "A1 c1"), together);
        due.is("a VOLUME alone, a COPY alone", twoOfThem("v1", "c1"), together);
        due.is("another YEAR", twoOfThem("A1 y1999", "A1 y2000"), apart);
        due.is("a YEAR more", twoOfThem("A1", "A1 y2000"), apart);
        due.is("a DECIMAL more", twoOfThem("A1 v1", "A1.5 v1"), apart);
        due.is("another DECIMAL", twoOfThem("A1.5", "A1.05"), apart);
        due.is("another WORK", twoOfThem("A1 .B1", "A1 .B2"), apart);
        due.is("another letter", twoOfThem("A1 .B1", "A1 .C1"), apart);
        due.is("a VOLUME alone and one of a WORK", twoOfThem("v1", "A v1"), apart);
        due.is("eight PARTS", twoOfThem("A A A A A A v1 c1", "A A A A A A v2 c1"), together);
        due.is("eight PARTS, the sixth another", twoOfThem("A A A A A A v1 c1", "A A A A A B v1 c1"), apart);
        due.is("eight PARTS, the eighth another", twoOfThem("A A A A A A A A", "A A A A A A A B"), apart);
    }

    /** A WORK of two on two shelves, of these widths. */
    private static String workOf(int first, int second, int width, int greatest) {
        ShelfCart x = new ShelfCart();
        x.shelf(width, false);
        x.shelf(width, false);
        Due.marks(x, "A1 v1|A1 v2");
        Due.standing(x, 0, first, 0, 0);
        Due.standing(x, 1, second, 1, 0);
        return shifted(x, 0, greatest);
    }

    private static void workNotParted() {
        due.sentence("and no WORK is parted between shelves that would not be wider than the greatest told part of the narrowest one of the FLOOR.");
        due.is("100 of 100", workOf(50, 50, 100, 100), "1: 0 2");
        due.is("101 of 100", workOf(50, 51, 100, 100), "0: 1 2");
        due.is("60 of 60", workOf(20, 40, 100, 60), "1: 0 2");
        due.is("61 of 60", workOf(20, 41, 100, 60), "0: 1 2");
        due.is("99 of 199, cut", workOf(49, 50, 199, 50), "1: 0 2");
        due.is("100 of 199, cut", workOf(50, 50, 199, 50), "0: 1 2");
        ShelfCart x = new ShelfCart();
        x.shelf(100, false);
        x.shelf(100, false);
        x.shelf(200, true);
        Due.marks(x, "A1 v1|A1 v2");
        x.stand(x.book(1, 0, 200, 0), 2, 0);
        x.dummy(0, 0, 0);
        int boxed = x.book(3, 1, 85, 0);
        x.stand(boxed, 1, 0);
        due.is("a DUMMY and a BOXED one, 5 and 95", x.shift(0, 1, 0, 100), 1);
        x.off(boxed);
        x.stand(x.book(3, 1, 86, 0), 1, 0);
        due.is("a DUMMY and a BOXED one, 5 and 96", x.shift(0, 1, 0, 100), 0);
        ShelfCart y = new ShelfCart();
        y.shelf(2000, false);
        y.shelf(2000, false);
        Due.marks(y, "A1 v1");
        for (int k = 0; k < 31; k++) {
            Due.standing(y, 0, 1, k / 30, k % 30);
        }
        due.is("31 of a WORK that may not be parted", y.shift(0, 1, 0, 100), -1);
        y.off(30);
        due.is("30 of it", y.shift(0, 1, 0, 100), 0);
    }

    private static void narrowestShelf() {
        int[][] widths = {{100, 300, 300}, {300, 100, 300}, {300, 300, 100}};
        for (int[] of : widths) {
            ShelfCart x = new ShelfCart();
            for (int width : of) {
                x.shelf(width, false);
            }
            Due.marks(x, "A1 v1|A1 v2");
            Due.standing(x, 0, 50, 0, 0);
            Due.standing(x, 1, 51, 1, 0);
            due.is("101: wider than the narrowest", x.shift(0, 2, 0, 100), 0);
            x.off(1);
            Due.standing(x, 1, 50, 1, 0);
            due.is("100: not wider", x.shift(0, 2, 0, 100), 1);
        }
        ShelfCart x = new ShelfCart();
        x.shelf(100, false);
        x.shelf(300, false);
        x.shelf(300, false);
        x.shelf(100, false);
        Due.marks(x, "A1 v1|A1 v2");
        Due.standing(x, 0, 100, 1, 0);
        Due.standing(x, 1, 100, 2, 0);
        due.is("narrower ones ahead and behind are not of the FLOOR", x.shift(1, 2, 0, 100), 1);
        due.is("the one ahead is", x.shift(0, 2, 0, 100), 0);
        due.is("the one behind is", x.shift(1, 3, 0, 100), 0);
    }

    private static void worksNextToOneAnother() {
        ShelfCart x = new ShelfCart();
        x.shelf(100, false);
        x.shelf(100, false);
        Due.marks(x, "A1 v1|A1 v2|B1");
        Due.standing(x, 0, 20, 0, 0);
        int between = Due.standing(x, 2, 20, 0, 9);
        Due.standing(x, 1, 20, 1, 29);
        due.is("B1 between them: two WORKS", shifted(x, 0, 100), "0: 2 3");
        x.off(between);
        due.is("next to one another, whatever the PLACES", shifted(x, 0, 100), "1: 0 2");
    }

    private static void severalWorks() {
        ShelfCart x = new ShelfCart();
        x.shelf(100, false);
        x.shelf(100, false);
        Due.marks(x, "A1 v1|A1 v2|B1 v1|B1 v2");
        Due.standing(x, 0, 30, 0, 0);
        Due.standing(x, 1, 30, 0, 1);
        Due.standing(x, 2, 30, 0, 2);
        Due.standing(x, 3, 30, 1, 0);
        due.is("each WORK has its own width, 60 and 60", shifted(x, 0, 100), "1: 2 4");
        ShelfCart y = new ShelfCart();
        y.shelf(100, false);
        y.shelf(100, false);
        y.shelf(100, false);
        Due.marks(y, "A1|B1 v1|B1 v2");
        Due.standing(y, 0, 100, 0, 0);
        Due.standing(y, 1, 50, 1, 0);
        Due.standing(y, 2, 50, 2, 0);
        due.is("100 and 100", shifted(y, 0, 100), "1: 1 1 3");
    }

    /** As many as there can be, on as many shelves as they need and one more. */
    private static void twoHundredBooks() {
        ShelfCart x = new ShelfCart();
        for (int k = 0; k < 8; k++) {
            x.shelf(2000, false);
        }
        Due.marks(x, "A0|A1|A2|A3|A4|A5|A6|A7|A8|A9");
        for (int k = 0; k < 200; k++) {
            Due.standing(x, k % 10, 10, k / 30, k % 30);
        }
        due.is("as they stand", shifted(x, 0, 100), "0: 30 60 90 120 150 180 200 200");
        due.is("28 on each", shifted(x, 14, 14), shiftOfEach(30, 28) + ": 28 56 84 112 140 168 196 200");
        due.yes("lift", x.lift());
        due.is("the last one", x.place(7, 3), 199);
        due.is("the first one of the last shelf", x.place(7, 0), 196);
        due.is("the last one of the first shelf", x.place(0, 27), 27);
        due.is("none behind it", x.place(0, 28), -1);
        due.is("as they stand now", shifted(x, 14, 14), "0: 28 56 84 112 140 168 196 200");
        due.is("24 on each are 192", x.shift(0, 7, 0, 12), -1);
        due.is("26 on each", shifted(x, 13, 13), shiftOfEach(28, 26) + ": 26 52 78 104 130 156 182 200");
    }

    /** How many of 200 are CHANGED if so many stand on each shelf and so many come there. */
    private static int shiftOfEach(int before, int after) {
        int changed = 0;
        for (int k = 0; k < 200; k++) {
            changed += k / before == k / after ? 0 : 1;
        }
        return changed;
    }

    private static void fewestChanged() {
        due.sentence("CHANGED are those that come to another shelf. Of all PLANS that with the fewest CHANGED;");
        ShelfCart x = floor(100, 100, 100);
        fill(x, 0, 50, 50);
        fill(x, 1, 50, 50);
        fill(x, 2, 50);
        due.is("none", shifted(x, 0, 100), "0: 2 4 5");
        ShelfCart y = floor(100, 100, 100);
        fill(y, 0, 10, 90);
        fill(y, 1, 90);
        fill(y, 2, 5, 2);
        due.is("none, though other PLANS have lesser numbers", shifted(y, 0, 100), "0: 2 3 5");
        due.is("two, at 99 percent", shifted(y, 0, 99), "2: 1 2 5");
        ShelfCart z = floor(100, 100);
        Due.standing(z, 0, 10, 0, 7);
        Due.standing(z, 1, 10, 1, 7);
        due.is("another PLACE of its shelf is no change", shifted(z, 0, 100), "0: 1 2");
    }

    private static void leastNumbers() {
        due.sentence("of several that whose numbers are least, the first shelf's first.");
        ShelfCart x = floor(100, 100, 100);
        fill(x, 1, 60, 60);
        due.is("0 1 2 rather than 1 2 2", shifted(x, 0, 100), "1: 0 1 2");
        ShelfCart y = floor(100, 100, 100, 100);
        fill(y, 1, 60, 60);
        due.is("the third shelf's, too: 0 1 1 2", shifted(y, 0, 100), "1: 0 1 1 2");
        ShelfCart z = floor(100, 100, 100);
        fill(z, 0, 60, 60);
        due.is("1 1 2 rather than 1 2 2", shifted(z, 0, 100), "1: 1 1 2");
    }

    private static void plan() {
        due.sentence("Of the PLAN at hand, how many end with the k-th shelf of its FLOOR. NONE if there is none such, or it was carried out.");
        ShelfCart x = floor(100, 100, 100);
        due.is("none is at hand", x.plan(0), -1);
        fill(x, 1, 60);
        x.shift(0, 2, 0, 100);
        due.taken("plan of three", 0, 2, -1, x::plan);
        x.shift(1, 1, 0, 100);
        due.taken("plan of one", 0, 0, -1, x::plan);
        due.is("its own first shelf", x.plan(0), 1);
        due.yes("lift", x.lift());
        due.is("it was carried out", x.plan(0), -1);
        ShelfCart y = new ShelfCart();
        for (int k = 0; k < 16; k++) {
            y.shelf(100, false);
        }
        y.shift(0, 15, 0, 100);
        due.taken("plan of 16", 0, 15, -1, y::plan);
    }

    private static void liftWithoutGaps() {
        due.sentence("each shelf's from PLACE 0 on, without gaps: true. False, too, without one. (None is at hand then, either way.)");
        due.no("without one", new ShelfCart().lift());
        ShelfCart x = floor(100, 100);
        Due.standing(x, 0, 30, 0, 29);
        Due.standing(x, 1, 30, 0, 3);
        Due.standing(x, 2, 30, 1, 1);
        due.is("nothing is CHANGED", shifted(x, 0, 100), "0: 2 3");
        due.yes("lift", x.lift());
        due.is("but there are no gaps", Due.stacked(x, 0), "0:1 1:0");
        due.is("but there are no gaps", Due.stacked(x, 1), "0:2");
        due.is("tell", x.tell(0, 5), 1);
        due.no("none is at hand", x.lift());
        ShelfCart z = floor(100, 100);
        fill(z, 0, 60, 60);
        fill(z, 1, 30);
        due.is("one comes where another stands", shifted(z, 0, 100), "1: 1 3");
        due.yes("lift", z.lift());
        due.is("shelf 0", Due.stacked(z, 0), "0:0");
        due.is("shelf 1", Due.stacked(z, 1), "0:1 1:2");
        due.is("where it stands now", z.tell(2, 5), 1);
        ShelfCart y = floor(2000, 100);
        for (int k = 0; k < 29; k++) {
            Due.standing(y, k % 10, 10, 0, 29 - k);
        }
        Due.standing(y, 0, 90, 1, 29);
        due.is("30 come together", y.shift(0, 1, 0, 89), 1);
        due.yes("lift", y.lift());
        due.is("all PLACES are taken", y.place(0, 29), 29);
        due.is("all PLACES are taken", y.place(0, 0), 28);
        due.is("none is left", Due.stacked(y, 1), "");
    }

    /** Two BOOKS on shelf 0, a DUMMY on shelf 1 of the FLOOR 0 to 1; shelves 2 COMMON, 3 HIGH; BOOKS 3 and 4 nowhere; a PLAN. */
    private static ShelfCart planned() {
        ShelfCart x = floor(100, 100, 100);
        x.shelf(300, true);
        Due.standing(x, 0, 30, 0, 0);
        Due.standing(x, 1, 30, 0, 2);
        x.stand(x.book(1, 2, 50, 0), 3, 0);
        x.dummy(2, 1, 4);
        x.book(0, 1, 30, 0);
        x.book(1, 2, 50, 0);
        x.shift(0, 1, 0, 100);
        return x;
    }

    private static void liftAsItWas() {
        due.sentence("The PLAN at hand is carried out, if all is as it was when it was made (the same stand on its FLOOR, at the same PLACES):");
        due.yes("at once", planned().lift());
        ShelfCart x = planned();
        x.off(0);
        x.stand(0, 0, 0);
        x.stand(1, 1, 9);
        x.stand(1, 0, 2);
        due.yes("away and back again", x.lift());
        due.is("shelf 0", Due.stacked(x, 0), "0:0 1:1");
        due.is("shelf 1", Due.stacked(x, 1), "0:1002");
        ShelfCart y = planned();
        y.stand(2, 3, 9);
        y.stand(3, 2, 0);
        y.stand(4, 3, 0);
        y.way(1);
        y.grow(0, 1, 5);
        y.list(0, 0);
        y.run(0, true);
        y.image(0);
        y.shelf(100, false);
        y.shift(0, 3, 0, 100);
        due.yes("what is not of its FLOOR may change", y.lift());
        due.is("shelf 2 is left as it is", Due.stacked(y, 2), "0:3");
        due.is("the READING is left as it is", Due.row(y), "0 1");
    }

    private static void liftNotAsItWas() {
        ShelfCart x = planned();
        x.stand(1, 0, 1);
        refusedLift("another PLACE", x, "0:0 1:1");
        x = planned();
        x.off(1);
        refusedLift("one is gone", x, "0:0");
        x = planned();
        x.off(0);
        refusedLift("the one at PLACE 0 is gone", x, "2:1");
        x = planned();
        x.stand(1, 2, 0);
        refusedLift("one is on another shelf", x, "0:0");
        x = planned();
        x.stand(3, 0, 29);
        refusedLift("one more", x, "0:0 2:1 29:3");
        x = planned();
        x.off(1);
        x.stand(3, 0, 2);
        refusedLift("another one of the same MARK and width at its PLACE", x, "0:0 2:3");
        x = planned();
        x.off(0);
        x.off(1);
        x.stand(0, 0, 2);
        x.stand(1, 0, 0);
        refusedLift("the same ones, the other way round", x, "0:1 2:0");
        x = planned();
        x.dummy(2, 1, 5);
        refusedLift("a DUMMY at another PLACE", x, "0:0 2:1");
        x = planned();
        x.off(2);
        refusedLift("a DUMMY is gone with its BOOK", x, "0:0 2:1");
        x = planned();
        x.off(2);
        x.stand(4, 3, 0);
        x.dummy(4, 1, 4);
        refusedLift("another BOOK's DUMMY at its PLACE", x, "0:0 2:1");
    }

    private static void refusedLift(String name, ShelfCart x, String shelf) {
        due.is(name + ": a PLAN is told still", x.plan(1), 3);
        due.no(name, x.lift());
        due.is(name + ": none is at hand then", x.plan(1), -1);
        due.is(name + ": all stand where they stood", Due.stacked(x, 0), shelf);
        due.no(name + ", once more", x.lift());
    }
}
