/** Promises 35 to 37: PLANS of a FLOOR, and how they are carried out. */
public final class ShiftingTest {
    private static final Due due = new Due("ShiftingTest");

    public static void main(String[] args) {
        refusals();
        nothingStands();
        fewestChanged();
        leastNumbers();
        leastPart();
        lastShelf();
        emptyShelves();
        thirty();
        works();
        worksTooWide();
        worksJustNarrow();
        likeWorks();
        dummies();
        cutParts();
        planStays();
        sixteenShelves();
        lifting();
        liftWhereOthersStand();
        liftAfterAnotherShift();
        liftRefused();
        due.end();
    }

    /** COMMON shelves of these widths, and the MARKS A0 .. A39. */
    private static ShelfCart floor(int... widths) {
        ShelfCart x = new ShelfCart();
        for (int width : widths) {
            x.shelf(width, false);
        }
        for (int k = 0; k < 40; k++) {
            Due.mark(x, "A" + k);
        }
        return x;
    }

    /** PLAIN BOOKS of these widths on a shelf, from PLACE 0 on, with the MARKS from one on. */
    private static void fill(ShelfCart x, int shelf, int mark, int... widths) {
        for (int k = 0; k < widths.length; k++) {
            Due.standing(x, mark + k, widths[k], shelf, k);
        }
    }

    private static String planOf(ShelfCart x) {
        StringBuilder row = new StringBuilder();
        for (int k = 0; x.plan(k) != -1; k++) {
            row.append(k == 0 ? "" : " ").append(x.plan(k));
        }
        return row.toString();
    }

    private static void refusals() {
        ShelfCart x = floor(100, 100, 100);
        x.shelf(100, true);
        x.shelf(100, false);
        due.is("no shelf", x.shift(-1, 0, 0, 100), -1);
        due.is("no shelf", x.shift(0, 5, 0, 100), -1);
        due.is("no shelf", x.shift(5, 5, 0, 100), -1);
        due.is("the second less", x.shift(1, 0, 0, 100), -1);
        due.is("HIGH", x.shift(3, 3, 0, 100), -1);
        due.is("HIGH at the end", x.shift(0, 3, 0, 100), -1);
        due.is("HIGH between", x.shift(2, 4, 0, 100), -1);
        due.is("a part of -1", x.shift(0, 1, -1, 100), -1);
        due.is("a part of 101", x.shift(0, 1, 0, 101), -1);
        due.is("the first greater", x.shift(0, 1, 51, 50), -1);
        due.is("min and max", x.shift(Integer.MIN_VALUE, Integer.MAX_VALUE, Integer.MIN_VALUE, Integer.MAX_VALUE), -1);
        due.is("no PLAN", planOf(x), "");
        due.is("one shelf", x.shift(4, 4, 0, 100), 0);
        due.is("one shelf", planOf(x), "0");
    }

    private static void nothingStands() {
        ShelfCart x = floor(100, 100);
        due.is("nothing", x.shift(0, 1, 100, 100), 0);
        due.is("nothing", planOf(x), "0 0");
        due.is("nothing, 0 percent", x.shift(0, 1, 0, 0), 0);
        due.is("plan(2)", x.plan(2), -1);
        due.is("plan(-1)", x.plan(-1), -1);
        due.yes("lift", x.lift());
        due.no("lift again", x.lift());
    }

    private static void fewestChanged() {
        ShelfCart x = floor(100, 100, 100);
        fill(x, 0, 0, 40, 40, 40);
        fill(x, 1, 3, 50, 40);
        fill(x, 2, 5, 30);
        due.is("shift", x.shift(0, 2, 0, 100), 2);
        due.is("40 40 | 40 50 | 40 30", planOf(x), "2 4 6");
        due.is("too much", x.shift(0, 2, 0, 80), -1);
        due.is("as it is already", x.shift(1, 2, 0, 100), 0);
        due.is("as it is already", planOf(x), "2 3");
    }

    private static void leastNumbers() {
        ShelfCart x = floor(100, 100, 100);
        fill(x, 1, 0, 60, 60);
        due.is("either one may go", x.shift(0, 2, 0, 100), 1);
        due.is("the first number is least", planOf(x), "0 1 2");
        ShelfCart y = floor(100, 100, 100);
        fill(y, 1, 0, 60, 60, 60);
        due.is("both others go", y.shift(0, 2, 0, 100), 2);
        due.is("both others go", planOf(y), "1 2 3");
    }

    private static void leastPart() {
        ShelfCart x = floor(100, 100, 100);
        fill(x, 0, 0, 30);
        fill(x, 1, 1, 30, 30);
        fill(x, 2, 3, 30);
        due.is("least 0", x.shift(0, 2, 0, 100), 0);
        due.is("least 30", x.shift(0, 2, 30, 100), 0);
        due.is("least 31", x.shift(0, 2, 31, 100), 1);
        due.is("nothing comes to the first one", planOf(x), "0 3 4");
        due.is("least 61", x.shift(0, 2, 61, 100), 1);
        due.is("90 there, 30 on the last one", planOf(x), "0 3 4");
        due.is("least 91", x.shift(0, 2, 91, 100), -1);
        ShelfCart y = floor(100, 100);
        fill(y, 0, 0, 30);
        fill(y, 1, 1, 40, 30);
        due.is("70 and 30", y.shift(0, 1, 70, 70), 1);
        due.is("70 and 30", planOf(y), "2 3");
    }

    private static void lastShelf() {
        ShelfCart x = floor(100, 100, 100);
        fill(x, 0, 0, 90);
        fill(x, 1, 1, 10);
        due.is("the last one on which something comes", x.shift(0, 2, 90, 100), 0);
        due.is("the last one on which something comes", planOf(x), "1 2 2");
        ShelfCart y = floor(100, 100, 100);
        fill(y, 0, 0, 10);
        due.is("it alone", y.shift(0, 2, 100, 100), 0);
        due.is("it alone", planOf(y), "1 1 1");
    }

    private static void emptyShelves() {
        ShelfCart x = floor(100, 100, 100);
        fill(x, 0, 0, 90);
        fill(x, 2, 1, 50);
        due.is("none comes between", x.shift(0, 2, 50, 100), 0);
        due.is("none comes between", planOf(x), "1 1 2");
        ShelfCart y = floor(100, 100);
        fill(y, 1, 0, 50);
        due.is("none comes first", y.shift(0, 1, 50, 100), 0);
        due.is("none comes first", planOf(y), "0 1");
        due.yes("lift", y.lift());
        due.is("tell(0, 4)", y.tell(0, 4), 1);
    }

    private static void thirty() {
        ShelfCart x = floor(1000, 1000);
        for (int k = 0; k < 30; k++) {
            Due.standing(x, k, 1, 0, k);
        }
        Due.standing(x, 30, 1, 1, 0);
        due.is("30 and 1", x.shift(0, 1, 0, 100), 0);
        due.is("30 and 1", planOf(x), "30 31");
        ShelfCart y = floor(1000, 1000);
        for (int k = 0; k < 20; k++) {
            Due.standing(y, k, 10, 0, k);
            Due.standing(y, 20 + k, 10, 1, k);
        }
        due.is("at least 300 are 30", y.shift(0, 1, 30, 100), 10);
        due.is("30 and 10", planOf(y), "30 40");
        due.is("31 are too many, and 40 on the second one", y.shift(0, 1, 31, 100), -1);
    }

    private static void works() {
        ShelfCart x = new ShelfCart();
        x.shelf(100, false);
        x.shelf(120, false);
        Due.marks(x, "A1|B1 v1|B1 v2|B1 v3 c2|B1 c5|C1");
        Due.standing(x, 0, 30, 0, 0);
        Due.standing(x, 1, 20, 0, 1);
        Due.standing(x, 2, 20, 0, 2);
        Due.standing(x, 3, 20, 0, 3);
        Due.standing(x, 4, 20, 0, 9);
        due.is("110 in all: B1 is not parted", x.shift(0, 1, 0, 100), 4);
        due.is("A1 | B1", planOf(x), "1 5");
        due.is("B1, 80 wide, is not parted", x.shift(0, 1, 0, 80), 4);
        due.is("A1 | B1", planOf(x), "1 5");
        due.is("B1, 80 wide, may be parted then", x.shift(0, 1, 0, 79), 2);
        due.is("A1 and two of B1", planOf(x), "3 5");
    }

    private static void worksTooWide() {
        ShelfCart x = new ShelfCart();
        x.shelf(300, false);
        x.shelf(100, false);
        Due.marks(x, "B1 v1|B1 v2|B1 v3");
        Due.standing(x, 0, 50, 1, 0);
        Due.standing(x, 1, 30, 1, 1);
        Due.standing(x, 2, 21, 1, 2);
        due.is("wider than the narrowest", x.shift(0, 1, 0, 100), 1);
        due.is("parted", planOf(x), "1 3");
        x.off(2);
        Due.standing(x, 2, 20, 1, 2);
        due.is("100, as the narrowest", x.shift(0, 1, 0, 100), 0);
        due.is("not parted", planOf(x), "0 3");
        due.is("100, and 99 percent", x.shift(0, 1, 0, 99), 1);
        due.is("parted", planOf(x), "1 3");
    }

    private static void worksJustNarrow() {
        ShelfCart x = new ShelfCart();
        x.shelf(100, false);
        x.shelf(100, false);
        Due.marks(x, "v1|c2|v3 c1|A1 v1|A1.5 v1|A1 c1");
        Due.standing(x, 0, 60, 0, 0);
        int last = Due.standing(x, 1, 40, 1, 0);
        due.is("100, as the narrowest: not parted", x.shift(0, 1, 0, 100), 1);
        due.is("both on the second one", planOf(x), "0 2");
        x.off(last);
        int wider = Due.standing(x, 2, 41, 1, 0);
        due.is("101: parted", x.shift(0, 1, 0, 100), 0);
        x.off(wider);
        x.off(0);
        int first = Due.standing(x, 3, 10, 0, 0);
        int decimal = Due.standing(x, 4, 10, 1, 0);
        due.is("A1 and A1.5 are two WORKS", x.shift(0, 1, 0, 100), 0);
        due.is("A1 and A1.5 are two WORKS", planOf(x), "1 2");
        x.off(decimal);
        Due.standing(x, 5, 10, 1, 0);
        due.is("A1 v1 and A1 c1 are one", x.shift(0, 1, 0, 100), 1);
        due.is("A1 v1 and A1 c1 are one", planOf(x), "0 2");
        x.off(first);
        due.is("A1 c1 alone", x.shift(0, 1, 0, 100), 0);
    }

    private static void likeWorks() {
        ShelfCart x = new ShelfCart();
        x.shelf(100, false);
        x.shelf(100, false);
        Due.marks(x, "v1|c2|v3 c1|A1 v1|A1.5 v1");
        Due.standing(x, 0, 40, 0, 0);
        Due.standing(x, 1, 40, 0, 1);
        Due.standing(x, 2, 40, 0, 2);
        due.is("of no other PARTS, 120 wide", x.shift(0, 1, 0, 100), 1);
        x.off(2);
        int third = Due.standing(x, 3, 40, 0, 2);
        due.is("A1 is another WORK", x.shift(0, 1, 0, 100), 1);
        due.is("A1 is another WORK", planOf(x), "2 3");
        Due.standing(x, 4, 30, 0, 3);
        due.is("A1.5 is another one", x.shift(0, 1, 0, 100), 2);
        due.is("80 | 70", planOf(x), "2 4");
        x.off(third);
        x.stand(third, 0, 20);
        due.is("80 | 30 40", x.shift(0, 1, 0, 100), 2);
        Due.standing(x, 0, 10, 0, 29);
        due.is("v1 again, apart from the first ones", x.shift(0, 1, 0, 100), 3);
        due.is("80 | 30 40 10", planOf(x), "2 5");
    }

    private static void dummies() {
        ShelfCart x = floor(100, 100);
        x.shelf(200, true);
        int tall = x.book(1, 1, 150, 0);
        x.stand(tall, 2, 0);
        Due.standing(x, 0, 96, 0, 0);
        x.dummy(tall, 0, 5);
        int boxed = x.book(3, 2, 86, 0);
        x.stand(boxed, 1, 3);
        due.is("101 and 96", x.shift(0, 1, 0, 100), -1);
        x.off(boxed);
        int boxedLess = x.book(3, 2, 85, 0);
        x.stand(boxedLess, 1, 3);
        due.is("96 and 5, 95", x.shift(0, 1, 0, 100), 1);
        due.is("the DUMMY comes to shelf 1", planOf(x), "1 3");
        due.yes("lift", x.lift());
        due.is("shelf 0", Due.stacked(x, 0), "0:1");
        due.is("shelf 1", Due.stacked(x, 1), "0:1000 1:" + boxedLess);
        due.is("its shelf", x.tell(tall, 6), 1);
        due.is("its PLACE", x.tell(tall, 7), 0);
        due.is("the BOOK stays", Due.stacked(x, 2), "0:0");
        due.is("the BOOK stays", x.tell(tall, 4), 2);
    }

    private static void cutParts() {
        ShelfCart x = floor(199, 199);
        fill(x, 0, 0, 100);
        due.is("50 percent of 199 are 99", x.shift(0, 1, 0, 50), -1);
        ShelfCart y = floor(199, 199);
        fill(y, 0, 0, 99, 10);
        due.is("99 are enough", y.shift(0, 1, 50, 50), 1);
        due.is("99 are enough", planOf(y), "1 2");
        due.is("109 percent would be more", y.shift(0, 1, 50, 54), 1);
        due.is("as it is", y.shift(0, 1, 50, 55), 0);
    }

    private static void planStays() {
        ShelfCart x = floor(100, 100);
        fill(x, 0, 0, 60, 60);
        due.is("shift", x.shift(0, 1, 0, 100), 1);
        due.is("none", x.shift(0, 1, 0, 20), -1);
        due.is("a refusal", x.shift(0, 2, 0, 100), -1);
        due.is("what was at hand stays", planOf(x), "1 2");
        x.image(0);
        due.is("an image leaves it", planOf(x), "1 2");
        due.no("again(1)", x.again(1));
        due.is("a refusal leaves it", planOf(x), "1 2");
        x.stand(1, 1, 5);
        due.is("told still", planOf(x), "1 2");
        x.again(0);
        due.is("none is at hand then", planOf(x), "");
        due.no("lift", x.lift());
        due.is("shelf 0", Due.stacked(x, 0), "0:0 1:1");
    }

    private static void lifting() {
        ShelfCart x = floor(100, 100, 100, 100);
        Due.standing(x, 0, 50, 1, 29);
        Due.standing(x, 1, 50, 1, 4);
        Due.standing(x, 2, 50, 1, 7);
        Due.standing(x, 3, 90, 3, 9);
        Due.standing(x, 4, 20, 0, 9);
        due.is("shift", x.shift(1, 3, 0, 100), 1);
        due.is("BOOKS 1 and 2, BOOK 0, BOOK 3", planOf(x), "2 3 4");
        due.yes("lift", x.lift());
        due.is("shelf 0 is not of it", Due.stacked(x, 0), "9:4");
        due.is("shelf 1", Due.stacked(x, 1), "0:1 1:2");
        due.is("shelf 2", Due.stacked(x, 2), "0:0");
        due.is("shelf 3", Due.stacked(x, 3), "0:3");
        due.is("tell(2, 5)", x.tell(2, 5), 1);
        due.is("tell(0, 4)", x.tell(0, 4), 2);
        due.is("tell(0, 5)", x.tell(0, 5), 0);
        due.is("it was carried out", planOf(x), "");
        due.no("lift again", x.lift());
    }

    private static void sixteenShelves() {
        ShelfCart x = new ShelfCart();
        for (int k = 0; k < 16; k++) {
            x.shelf(100, false);
            Due.mark(x, "A" + k);
        }
        for (int k = 0; k < 16; k++) {
            Due.standing(x, k, 60, 0, k);
        }
        due.is("one on each", x.shift(0, 15, 0, 100), 15);
        due.is("one on each", planOf(x), "1 2 3 4 5 6 7 8 9 10 11 12 13 14 15 16");
        due.yes("lift", x.lift());
        for (int k = 0; k < 16; k++) {
            due.is("shelf " + k, Due.stacked(x, k), "0:" + k);
        }
        due.is("nothing changes now", x.shift(0, 15, 60, 60), 0);
    }

    private static void liftWhereOthersStand() {
        ShelfCart x = floor(100, 100);
        fill(x, 0, 0, 60, 60);
        fill(x, 1, 2, 30);
        due.is("shift", x.shift(0, 1, 0, 100), 1);
        due.yes("lift", x.lift());
        due.is("shelf 0", Due.stacked(x, 0), "0:0");
        due.is("shelf 1", Due.stacked(x, 1), "0:1 1:2");
        due.is("tell(2, 5)", x.tell(2, 5), 1);
    }

    private static void liftAfterAnotherShift() {
        ShelfCart x = floor(100, 100, 100, 100);
        fill(x, 0, 0, 60, 60);
        fill(x, 2, 2, 90, 90, 90);
        due.is("shift", x.shift(0, 1, 0, 100), 1);
        due.is("there is none", x.shift(2, 3, 0, 100), -1);
        due.yes("the first one is carried out", x.lift());
        due.is("shelf 0", Due.stacked(x, 0), "0:0");
        due.is("shelf 1", Due.stacked(x, 1), "0:1");
        due.is("shelf 2", Due.stacked(x, 2), "0:2 1:3 2:4");
    }

    private static void liftRefused() {
        ShelfCart x = floor(100, 100, 100);
        fill(x, 0, 0, 60, 60);
        due.no("none at hand", x.lift());
        x.shift(0, 1, 0, 100);
        x.off(1);
        x.stand(1, 0, 2);
        due.no("at another PLACE", x.lift());
        due.is("none is at hand then", planOf(x), "");
        x.stand(1, 0, 1);
        due.no("nor later", x.lift());
        x.shift(0, 1, 0, 100);
        x.stand(0, 1, 0);
        due.no("PLACE 0 is empty", x.lift());
        x.stand(0, 0, 0);
        x.shift(0, 1, 0, 100);
        int other = x.book(0, 1, 60, 0);
        x.off(1);
        x.stand(other, 0, 1);
        due.no("another BOOK at the same PLACE", x.lift());
        x.shift(0, 1, 0, 100);
        Due.standing(x, 3, 10, 1, 29);
        due.no("one more", x.lift());
        x.shift(0, 1, 0, 100);
        int apart = Due.standing(x, 4, 10, 2, 0);
        x.off(other);
        x.stand(other, 0, 1);
        x.way(1);
        due.yes("all is as it was on its FLOOR", x.lift());
        due.is("shelf 0", Due.stacked(x, 0), "0:0");
        due.is("shelf 2", Due.stacked(x, 2), "0:" + apart);
    }
}
