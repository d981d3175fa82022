/** Promises 33, 34 and 18: GROWTHS, ROOM of later years, the first year in which a shelf is full. */
public final class GrowingTest {
    private static final Due due = new Due("GrowingTest");

    public static void main(String[] args) {
        refusals();
        twelve();
        roomByYears();
        severalGrowths();
        whatStands();
        byWayZero();
        full();
        fullLate();
        due.end();
    }

    /** MARKS 0 to 4 are A0 .. A4; shelves 0 and 1 COMMON, 2 HIGH, each 1000 wide. */
    private static ShelfCart cart() {
        ShelfCart x = new ShelfCart();
        x.shelf(1000, false);
        x.shelf(1000, false);
        x.shelf(1000, true);
        Due.marks(x, "A0|A1|A2|A3|A4");
        return x;
    }

    private static void refusals() {
        ShelfCart x = cart();
        due.is("no MARK", x.grow(5, 5, 10), -1);
        due.is("no MARK", x.grow(-1, 0, 10), -1);
        due.is("no MARK", x.grow(0, 5, 10), -1);
        due.is("no MARK", x.grow(0, -1, 10), -1);
        due.is("ahead", x.grow(1, 0, 10), -1);
        due.is("0 millimetres", x.grow(0, 1, 0), -1);
        due.is("1001 millimetres", x.grow(0, 1, 1001), -1);
        due.is("-1 millimetres", x.grow(0, 1, -1), -1);
        due.is("count(4)", x.count(4), 0);
        due.is("1 millimetre", x.grow(0, 1, 1), 1);
        due.is("1000 millimetres", x.grow(0, 0, 1000), 2);
        due.is("count(4)", x.count(4), 2);
    }

    private static void twelve() {
        ShelfCart x = cart();
        Due.standing(x, 0, 10, 0, 0);
        for (int k = 1; k <= 12; k++) {
            due.is("grow", x.grow(0, 4, 1), k);
        }
        due.is("the 13th", x.grow(0, 4, 1), -1);
        due.is("count(4)", x.count(4), 12);
        due.is("room", x.room(0, 10), 870);
    }

    private static void roomByYears() {
        ShelfCart x = cart();
        due.is("grow", x.grow(1, 3, 7), 1);
        due.is("no BOOKS", x.room(0, 60), 1000);
        Due.standing(x, 1, 10, 0, 0);
        due.is("y 0", x.room(0, 0), 990);
        due.is("y 1", x.room(0, 1), 983);
        due.is("y 60", x.room(0, 60), 570);
        Due.standing(x, 3, 20, 1, 0);
        due.is("1 of 2, cut up", x.room(0, 1), 986);
        due.is("1 of 2, y 2", x.room(0, 2), 983);
        due.is("1 of 2, cut up", x.room(1, 3), 969);
        Due.standing(x, 2, 20, 1, 9);
        due.is("1 of 3, cut up", x.room(0, 1), 987);
        due.is("2 of 3, cut up", x.room(1, 1), 955);
        due.is("2 of 3, y 3", x.room(1, 3), 946);
        Due.standing(x, 0, 5, 0, 7);
        Due.standing(x, 4, 5, 0, 8);
        due.is("A0 and A4 are not of it", x.room(0, 1), 977);
        due.is("another shelf", x.room(2, 60), 1000);
    }

    private static void severalGrowths() {
        ShelfCart x = cart();
        Due.standing(x, 0, 10, 0, 0);
        Due.standing(x, 1, 10, 0, 1);
        Due.standing(x, 2, 10, 1, 0);
        x.grow(0, 2, 10);
        x.grow(1, 2, 5);
        x.grow(0, 0, 3);
        x.grow(4, 4, 1000);
        due.is("7 and 3 and 3, each cut up", x.room(0, 1), 967);
        due.is("4 and 3", x.room(1, 1), 983);
        due.is("20 and 8 and 9", x.room(0, 3), 943);
        due.is("10 and 8", x.room(1, 3), 972);
    }

    private static void whatStands() {
        ShelfCart x = cart();
        x.grow(0, 4, 10);
        int low = Due.standing(x, 0, 10, 0, 0);
        int tall = x.book(1, 2, 50, 0);
        due.is("one that stands nowhere", x.room(0, 1), 980);
        x.stand(tall, 2, 3);
        due.is("1 of 2", x.room(0, 1), 985);
        due.is("a TALL one", x.room(2, 1), 945);
        x.dummy(tall, 1, 0);
        due.is("a DUMMY is no BOOK", x.room(1, 1), 995);
        due.is("1 of 2 still", x.room(0, 1), 985);
        x.off(low);
        due.is("0 of 1", x.room(0, 1), 1000);
        due.is("1 of 1", x.room(2, 1), 940);
    }

    private static void byWayZero() {
        ShelfCart x = new ShelfCart();
        x.shelf(100, false);
        Due.marks(x, ".15|.5|.2|.9");
        x.way(1);
        due.is("from .5 to .15, ahead of it by WAY 0", x.grow(1, 0, 5), -1);
        due.is("from .15 to .5", x.grow(0, 1, 5), 1);
        Due.standing(x, 3, 10, 0, 0);
        due.is(".9 is not of it by WAY 0", x.room(0, 1), 90);
        Due.standing(x, 2, 10, 0, 1);
        due.is(".2 is of it by WAY 0", x.room(0, 1), 75);
    }

    private static void full() {
        ShelfCart x = cart();
        due.is("empty", x.full(), -1);
        x.shelf(100, false);
        x.shelf(100, false);
        Due.standing(x, 0, 100, 3, 0);
        due.is("ROOM 0", x.full(), -1);
        int one = Due.standing(x, 1, 1, 3, 1);
        due.is("below 0", x.full(), 3);
        Due.standing(x, 0, 110, 4, 0);
        due.is("the least shelf", x.full(), 3);
        x.off(one);
        due.is("shelf 4", x.full(), 4);
    }

    private static void fullLate() {
        ShelfCart x = cart();
        Due.standing(x, 0, 100, 0, 0);
        x.grow(0, 0, 15);
        due.is("ROOM 0 in year 60", x.full(), -1);
        Due.standing(x, 1, 1, 0, 1);
        due.is("below 0 in year 60", x.full(), 6000);
        Due.standing(x, 2, 200, 1, 0);
        x.grow(2, 2, 200);
        due.is("below 0 in year 5", x.full(), 501);
        Due.standing(x, 3, 50, 0, 2);
        x.grow(3, 3, 190);
        due.is("the least shelf of year 5", x.full(), 500);
    }
}
