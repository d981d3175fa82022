/** Promises 19 to 26: READINGS, RIGHT and WRONG, MOVES. */
public final class ReadingsTest {
    private static final Due due = new Due("ReadingsTest");

    public static void main(String[] args) {
        running();
        wholeShelf();
        seeing();
        rights();
        likeMarks();
        moves();
        moveToTheBeginning();
        where();
        between();
        byWay();
        sixty();
        due.end();
    }

    /** MARKS 0 to 9 are A0 .. A9; a COMMON and a HIGH shelf. */
    private static ShelfCart tenMarks() {
        ShelfCart x = new ShelfCart();
        x.shelf(500, false);
        x.shelf(500, true);
        Due.marks(x, "A0|A1|A2|A3|A4|A5|A6|A7|A8|A9");
        return x;
    }

    private static void running() {
        ShelfCart x = tenMarks();
        due.no("run(2)", x.run(2, false));
        due.no("run(-1)", x.run(-1, true));
        due.is("none at hand", x.count(5), -1);
        due.is("none at hand", x.count(6), -1);
        due.yes("run(1)", x.run(1, false));
        due.is("count(5)", x.count(5), 0);
        due.is("count(6)", x.count(6), 1);
        due.is("seen(3)", x.seen(3), 1);
        due.no("run(2)", x.run(2, false));
        due.is("that at hand stays", Due.row(x), "3");
        due.yes("run(0)", x.run(0, false));
        due.is("a new one", x.count(5), 0);
        due.is("count(6)", x.count(6), 0);
        due.is("nobody stands there", x.run(0, true) ? x.count(5) : 9, 0);
    }

    private static void wholeShelf() {
        ShelfCart x = tenMarks();
        Due.standing(x, 5, 10, 0, 29);
        Due.standing(x, 7, 10, 0, 2);
        int tall = x.book(1, 3, 10, 0);
        x.stand(tall, 1, 4);
        x.dummy(tall, 0, 11);
        due.yes("run(0, true)", x.run(0, true));
        due.is("by PLACES, DUMMIES too", Due.row(x), "7 3 5");
        Due.standing(x, 6, 10, 0, 0);
        x.run(0, true);
        due.is("from PLACE 0 on", Due.row(x), "6 7 3 5");
        due.yes("run(0, false)", x.run(0, false));
        due.is("not whole", Due.row(x), "");
        due.yes("run(1, true)", x.run(1, true));
        due.is("the HIGH one", Due.row(x), "3");
        due.is("seen behind them", x.seen(0), 2);
    }

    private static void seeing() {
        ShelfCart x = tenMarks();
        due.is("none at hand", x.seen(0), -1);
        x.run(0, false);
        due.is("no MARK", x.seen(10), -1);
        due.is("no MARK", x.seen(-1), -1);
        for (int k = 1; k <= 60; k++) {
            due.is("seen", x.seen(k % 10), k);
        }
        due.is("it has 60", x.seen(0), -1);
        due.is("count(5)", x.count(5), 60);
        due.is("read(59)", x.read(59), 0);
        due.is("read(58)", x.read(58), 9);
        due.is("read(60)", x.read(60), -1);
        due.is("read(-1)", x.read(-1), -1);
        due.is("read(max)", x.read(Integer.MAX_VALUE), -1);
        x.done();
        due.is("none at hand", x.read(0), -1);
    }

    private static void order(ShelfCart x, String call, String rights, String wrongs) {
        due.is(call + ": RIGHT", placesOf(x, true), rights);
        due.is(call + ": WRONG", placesOf(x, false), wrongs);
        due.is(call + ": fewest", x.fewest(), wrongs.isEmpty() ? 0 : wrongs.split(" ").length);
    }

    private static String placesOf(ShelfCart x, boolean right) {
        StringBuilder row = new StringBuilder();
        for (int k = 0; x.order(right, k) != -1; k++) {
            row.append(k == 0 ? "" : " ").append(x.order(right, k));
        }
        return row.toString();
    }

    private static void rights() {
        ShelfCart x = tenMarks();
        Due.reading(x, 0);
        order(x, "of no MARKS", "", "");
        due.is("move", x.move(), -1);
        Due.reading(x, 0, 4);
        order(x, "of one", "0", "");
        Due.reading(x, 0, 0, 1, 2, 3);
        order(x, "IN ORDER", "0 1 2 3", "");
        Due.reading(x, 0, 3, 2, 1, 0);
        order(x, "the first place is least", "0", "1 2 3");
        Due.reading(x, 0, 5, 6, 1, 2);
        order(x, "two as long", "0 1", "2 3");
        Due.reading(x, 0, 1, 5, 3, 4, 7);
        order(x, "the longest", "0 2 3 4", "1");
        Due.reading(x, 0, 1, 5, 3, 7);
        order(x, "the second place is least", "0 1 3", "2");
        Due.reading(x, 0, 9, 0, 8, 1, 7, 2);
        order(x, "the third place is least", "1 3 4", "0 2 5");
        Due.reading(x, 0, 2, 3, 0, 1, 4);
        order(x, "the first two", "0 1 4", "2 3");
        due.is("order(true, -1)", x.order(true, -1), -1);
        due.is("order(false, -1)", x.order(false, -1), -1);
        due.is("order(true, 3)", x.order(true, 3), -1);
        due.is("order(false, max)", x.order(false, Integer.MAX_VALUE), -1);
        due.is("order(false, min)", x.order(false, Integer.MIN_VALUE), -1);
    }

    private static void likeMarks() {
        ShelfCart x = tenMarks();
        Due.reading(x, 0, 3, 3, 2, 3);
        order(x, "like ones are IN ORDER", "0 1 3", "2");
        Due.reading(x, 0, 3, 2, 2, 3);
        order(x, "like ones in the longest", "1 2 3", "0");
        due.is("it comes behind the like one", x.move(), 3);
        due.is("the READING", Due.row(x), "2 2 3 3");
    }

    private static void moves() {
        ShelfCart x = tenMarks();
        due.is("none at hand", x.move(), -1);
        Due.reading(x, 0, 4, 9, 5, 1, 6, 7, 2);
        order(x, "at first", "0 2 4 5", "1 3 6");
        due.is("9 behind 7", x.move(), 105);
        due.is("the READING", Due.row(x), "4 5 1 6 7 9 2");
        due.is("fewest", x.fewest(), 2);
        due.is("1 to the beginning", x.move(), 200);
        due.is("the READING", Due.row(x), "1 4 5 6 7 9 2");
        due.is("2 behind 1", x.move(), 601);
        due.is("the READING", Due.row(x), "1 2 4 5 6 7 9");
        due.is("none more", x.move(), -1);
        due.is("fewest", x.fewest(), 0);
    }

    private static void moveToTheBeginning() {
        ShelfCart x = tenMarks();
        Due.reading(x, 0, 7, 8, 0, 1, 2);
        order(x, "at first", "2 3 4", "0 1");
        due.is("7 behind 2", x.move(), 4);
        due.is("the READING", Due.row(x), "8 0 1 2 7");
        due.is("8 behind 7", x.move(), 4);
        due.is("the READING", Due.row(x), "0 1 2 7 8");
        Due.reading(x, 0, 5, 1, 6, 0, 7);
        due.is("1 to the beginning", x.move(), 100);
        due.is("the READING", Due.row(x), "1 5 6 0 7");
        due.is("0 ahead of all RIGHT ones", x.move(), 300);
        due.is("the READING", Due.row(x), "0 1 5 6 7");
        Due.reading(x, 0, 3, 9, 1, 4, 2, 5);
        due.is("9 behind 5", x.move(), 105);
        due.is("1 to the beginning", x.move(), 100);
        due.is("2 behind 1, ahead of 3", x.move(), 301);
        due.is("the READING", Due.row(x), "1 2 3 4 5 9");
    }

    private static void where() {
        ShelfCart x = tenMarks();
        due.is("none at hand", x.where(0), -1);
        x.run(0, false);
        due.is("of no MARKS", x.where(0), 0);
        Due.reading(x, 0, 2, 4, 4, 6);
        int[] wanted = {0, 0, 1, 1, 3, 3, 4, 4};
        for (int mark = 0; mark < wanted.length; mark++) {
            due.is("where(" + mark + ")", x.where(mark), wanted[mark]);
        }
        due.is("where(10)", x.where(10), -1);
        due.is("where(-1)", x.where(-1), -1);
        Due.reading(x, 0, 2, 4, 3);
        due.is("not IN ORDER", x.where(5), -1);
        due.is("not IN ORDER", x.between(5, 0), -1);
        Due.reading(x, 0, 4, 2, 5);
        due.is("not IN ORDER at the beginning", x.where(5), -1);
        Due.reading(x, 0, 2, 4, 3);
        x.move();
        due.is("IN ORDER now", x.where(5), 3);
    }

    private static void between() {
        ShelfCart x = tenMarks();
        due.is("none at hand", x.between(0, 0), -1);
        x.run(0, false);
        due.is("of no MARKS", x.between(0, 0), -1);
        due.is("of no MARKS", x.between(0, 1), -1);
        Due.reading(x, 0, 2, 4, 6);
        due.is("none ahead", x.between(1, 0), -1);
        due.is("behind", x.between(1, 1), 2);
        due.is("ahead", x.between(5, 0), 4);
        due.is("behind", x.between(5, 1), 6);
        due.is("the like one is ahead", x.between(4, 0), 4);
        due.is("the next one is behind", x.between(4, 1), 6);
        due.is("ahead", x.between(9, 0), 6);
        due.is("none behind", x.between(9, 1), -1);
        due.is("what 2", x.between(5, 2), -1);
        due.is("what -1", x.between(5, -1), -1);
        due.is("no MARK", x.between(10, 0), -1);
    }

    private static void byWay() {
        ShelfCart x = new ShelfCart();
        x.shelf(100, false);
        Due.marks(x, ".15|.5|.25");
        Due.reading(x, 0, 0, 2, 1);
        due.is("by WAY 0", x.fewest(), 0);
        due.is("where", x.where(0), 1);
        x.way(1);
        order(x, "by WAY 1", "0 1", "2");
        due.is("where", x.where(0), -1);
        due.is("move", x.move(), 200);
        due.is("the READING", Due.row(x), "1 0 2");
        due.is("where", x.where(0), 2);
        x.way(0);
        due.is("by WAY 0 again", x.fewest(), 1);
    }

    private static void sixty() {
        ShelfCart x = new ShelfCart();
        x.shelf(100, false);
        for (int k = 0; k < 60; k++) {
            Due.mark(x, "" + k);
        }
        x.run(0, false);
        for (int k = 59; k >= 0; k--) {
            x.seen(k);
        }
        due.is("59 MOVES", x.fewest(), 59);
        for (int k = 1; k < 60; k++) {
            due.is("each to the beginning", x.move(), 100 * k);
        }
        due.is("none more", x.move(), -1);
        due.is("read(0)", x.read(0), 0);
        due.is("read(59)", x.read(59), 59);
    }
}
