/** Terms 2 and 4, promises 11 to 18, 32 to 34, sentence by sentence: what is just taken, what just not. */
public final class EdgesOfShelvesTest {
    private static final Due due = new Due("EdgesOfShelvesTest");
    private static final int PLAIN = 0;
    private static final int TALL = 1;
    private static final int BOUND = 2;
    private static final int BOXED = 3;

    public static void main(String[] args) {
        sixteenShelves();
        twoHundredBooks();
        bound();
        oneAtAPlace();
        onItsShelf();
        dummies();
        thirtyPlaces();
        off();
        tell();
        place();
        room();
        inOrder();
        twelveGrowths();
        booksOfAGrowth();
        cutUp();
        noBooksOfAGrowth();
        mostGrown();
        full();
        fullAtTheLast();
        due.end();
    }

    /** Shelves 0 and 1 COMMON, 2 and 3 HIGH, each 500 wide; MARKS A1, B1 v3, C1. */
    private static ShelfCart stacks() {
        ShelfCart x = new ShelfCart();
        for (int k = 0; k < 4; k++) {
            x.shelf(500, k > 1);
        }
        Due.marks(x, "A1|B1 v3|C1");
        return x;
    }

    private static void sixteenShelves() {
        due.sentence("SHELVES (at most 16, numbered from 0 on), COMMON or HIGH, have a width, 100 .. 2000, and 30 PLACES, 0 .. 29.");
        due.sentence("NONE: there are 16, or another width.");
        due.taken("the width of a COMMON shelf", 100, 2000, -1, width -> new ShelfCart().shelf(width, false));
        due.taken("the width of a HIGH shelf", 100, 2000, -1, width -> new ShelfCart().shelf(width, true));
        for (int width : new int[] {100, 101, 1999, 2000}) {
            ShelfCart y = new ShelfCart();
            y.shelf(width, false);
            due.is("its ROOM", y.room(0, 0), width);
        }
        ShelfCart x = new ShelfCart();
        for (int k = 0; k < 16; k++) {
            due.is("another width", x.shelf(99, true), -1);
            due.is("the shelf " + k, x.shelf(100 + k, k % 2 == 0), k);
        }
        due.is("the 17th", x.shelf(100, false), -1);
        due.is("the 17th, HIGH", x.shelf(100, true), -1);
        due.is("count(1)", x.count(1), 16);
        due.is("the last one's ROOM", x.room(15, 0), 115);
        due.is("no more", x.room(16, 0), -1000000);
    }

    private static void twoHundredBooks() {
        due.sentence("BOOKS (at most 200, from 0 on) have a MARK, a KIND and a width, 1 .. 200:");
        due.sentence("NONE: there are 200; no such MARK, KIND, width;");
        due.taken("KIND", PLAIN, BOXED, -1, kind -> stacks().book(kind, 1, 10, 3));
        due.taken("MARK", 0, 2, -1, mark -> stacks().book(PLAIN, mark, 10, 0));
        for (int kind = PLAIN; kind <= BOXED; kind++) {
            int of = kind;
            due.taken("width of KIND " + kind, 1, 200, -1, width -> stacks().book(of, 1, width, 3));
        }
        ShelfCart x = stacks();
        for (int k = 0; k < 200; k++) {
            due.is("the BOOK " + k, x.book(k % 4, 1, 1 + k, 3), k);
        }
        for (int kind = PLAIN; kind <= BOXED; kind++) {
            due.is("the 201st", x.book(kind, 1, 10, 3), -1);
        }
        due.is("count(2)", x.count(2), 200);
        due.is("the last one's width", x.tell(199, 2), 200);
        due.is("it stands nowhere", x.tell(199, 4), -1);
        due.yes("it may stand", x.stand(199, 0, 29));
        due.no("no more may", x.stand(200, 0, 28));
    }

    private static void bound() {
        due.sentence("2 BOUND (its MARK has a VOLUME; it has that one and those up to another, not less, at most 999)");
        due.sentence("a BOUND one's MARK has no VOLUME, or last is below that, or above 999 (last is looked at of BOUND ones alone).");
        due.taken("last, behind VOLUME 3", 3, 999, -1, last -> stacks().book(BOUND, 1, 10, last));
        for (int first : new int[] {1, 2, 998, 999}) {
            due.taken("last, behind VOLUME " + first, first, 999, -1, last -> bookOf(first, "", last));
            due.taken("last, behind VOLUME " + first + " of a COPY", first, 999, -1, last -> bookOf(first, " c5", last));
        }
        due.is("as the first", bookOf(3, "", 3), 3);
        due.is("up to another", bookOf(3, " c1", 4), 4);
        due.is("up to the greatest", bookOf(3, "", 999), 999);
        ShelfCart x = new ShelfCart();
        Due.marks(x, "A1|A1 c5|v7|.A1 y1999");
        due.is("no VOLUME", x.book(BOUND, 0, 10, 5), -1);
        due.is("a COPY, but no VOLUME", x.book(BOUND, 1, 10, 5), -1);
        due.is("a YEAR, but no VOLUME", x.book(BOUND, 3, 10, 999), -1);
        due.is("a VOLUME alone", x.book(BOUND, 2, 10, 7), 0);
        for (int kind : new int[] {PLAIN, TALL, BOXED}) {
            for (int last : new int[] {Integer.MIN_VALUE, -1, 0, 6, 1000, Integer.MAX_VALUE}) {
                int book = x.book(kind, 2, 10, last);
                due.yes("last is not looked at", book > 0);
                due.is("it has none", x.tell(book, 3), 0);
            }
        }
    }

    /** The last VOLUME of a BOUND BOOK, or NONE if there is no such BOOK. */
    private static int bookOf(int volume, String copy, int last) {
        ShelfCart x = new ShelfCart();
        Due.marks(x, "A1 v" + volume + copy);
        int book = x.book(BOUND, 0, 10, last);
        return book == -1 ? -1 : x.tell(book, 3);
    }

    private static void oneAtAPlace() {
        due.sentence("At a PLACE there is one of these at most.");
        due.sentence("A BOOK stands at a PLACE from now on (also if it stood elsewhere; its DUMMY stays). False: there is no such BOOK, shelf, PLACE; the shelf is not for it; something is there.");
        due.taken("the BOOK", 0, 1, 0, book -> Due.number(twoBooks().stand(book, 0, 0)));
        due.taken("the shelf", 0, 1, 0, shelf -> Due.number(twoBooks().stand(0, shelf, 0)));
        due.taken("the PLACE", 0, 29, 0, place -> Due.number(twoBooks().stand(0, 1, place)));
        ShelfCart x = twoBooks();
        due.yes("stand", x.stand(0, 0, 5));
        due.no("something is there", x.stand(1, 0, 5));
        due.no("itself", x.stand(0, 0, 5));
        due.is("the other one stands nowhere", x.tell(1, 4), -1);
        due.yes("next to it", x.stand(1, 0, 6));
        due.yes("elsewhere", x.stand(0, 1, 5));
        due.yes("where it stood", x.stand(1, 0, 5));
        due.is("shelf 0", Due.stacked(x, 0), "5:1");
        due.is("shelf 1", Due.stacked(x, 1), "5:0");
    }

    private static ShelfCart twoBooks() {
        ShelfCart x = stacks();
        x.book(PLAIN, 0, 10, 0);
        x.book(BOXED, 2, 10, 0);
        return x;
    }

    private static void onItsShelf() {
        due.sentence("A BOOK stands at one PLACE or nowhere: a TALL one on a HIGH shelf, others on COMMON ones.");
        for (int kind = PLAIN; kind <= BOXED; kind++) {
            ShelfCart x = stacks();
            x.book(kind, 1, 10, 3);
            due.is("KIND " + kind + " on a COMMON shelf", Due.number(x.stand(0, 1, 0)), kind == TALL ? 0 : 1);
            due.is("KIND " + kind + " on a HIGH shelf", Due.number(x.stand(0, 2, 0)), kind == TALL ? 1 : 0);
            due.is("where it stands", x.tell(0, 4), kind == TALL ? 2 : 1);
            due.is("on the other one nothing does", x.place(kind == TALL ? 1 : 2, 0), -1);
        }
    }

    /** BOOK 0 TALL, stands at PLACE 0 of shelf 2; BOOK 1 PLAIN at PLACE 0 of shelf 0; BOOK 2 TALL, nowhere. */
    private static ShelfCart tallOne() {
        ShelfCart x = stacks();
        x.book(TALL, 0, 100, 0);
        x.book(PLAIN, 1, 10, 0);
        x.book(TALL, 2, 100, 0);
        x.stand(0, 2, 0);
        x.stand(1, 0, 0);
        return x;
    }

    private static void dummies() {
        due.sentence("A TALL one that stands may have a DUMMY (width 5) at a PLACE of a COMMON shelf.");
        due.sentence("A BOOK's DUMMY stands at a PLACE from now on (also if it stood elsewhere). False: there is no such BOOK, shelf, PLACE; it is not TALL, or stands nowhere; the shelf is HIGH; something is there.");
        due.taken("the BOOK", 0, 0, 0, book -> Due.number(tallOne().dummy(book, 0, 1)));
        due.taken("the shelf", 0, 1, 0, shelf -> Due.number(tallOne().dummy(0, shelf, 1)));
        due.taken("the PLACE", 0, 29, 0, place -> Due.number(tallOne().dummy(0, 1, place)));
        ShelfCart x = tallOne();
        for (int kind : new int[] {PLAIN, BOUND, BOXED}) {
            int book = x.book(kind, 1, 10, 3);
            x.stand(book, 1, 10 + kind);
            due.no("it is not TALL", x.dummy(book, 1, 0));
        }
        due.no("it stands nowhere", x.dummy(2, 1, 0));
        due.no("the shelf is HIGH", x.dummy(0, 3, 1));
        due.no("the shelf is its BOOK's", x.dummy(0, 2, 1));
        due.no("a BOOK is there", x.dummy(0, 0, 0));
        due.yes("dummy", x.dummy(0, 0, 29));
        due.no("itself is there", x.dummy(0, 0, 29));
        due.is("width 5", x.room(0, 0), 485);
        x.stand(2, 3, 0);
        due.no("another DUMMY is there", x.dummy(2, 0, 29));
        due.no("no BOOK where a DUMMY is", x.stand(1, 0, 29));
        due.yes("elsewhere", x.dummy(0, 1, 0));
        due.is("where it was nothing is", x.place(0, 29), -1);
        due.yes("its BOOK elsewhere", x.stand(0, 3, 29));
        due.is("the DUMMY stays", x.place(1, 0), 1000);
        due.yes("off", x.off(0));
        due.is("the DUMMY, too", x.place(1, 0), -1);
        due.no("it stands nowhere now", x.dummy(0, 1, 0));
        due.yes("it stands again", x.stand(0, 2, 0));
        due.is("without a DUMMY", x.tell(0, 6), -1);
        due.yes("which it may have", x.dummy(0, 1, 0));
    }

    private static void thirtyPlaces() {
        ShelfCart x = stacks();
        for (int k = 0; k < 31; k++) {
            x.book(PLAIN, 0, 1, 0);
        }
        for (int k = 0; k < 30; k++) {
            due.yes("PLACE " + k, x.stand(k, 0, k));
        }
        for (int place = -1; place <= 30; place++) {
            due.no("a full shelf, PLACE " + place, x.stand(30, 0, place));
        }
        due.is("its ROOM", x.room(0, 0), 470);
        due.yes("it is read whole", x.run(0, true));
        due.is("it is read whole", x.count(5), 30);
        due.yes("one goes", x.off(17));
        due.yes("one comes", x.stand(30, 0, 17));
    }

    private static void off() {
        due.sentence("A BOOK, and its DUMMY, stand nowhere. False: it did so, or there is none such.");
        due.taken("off", 0, 1, 0, book -> Due.number(tallOne().off(book)));
        ShelfCart x = tallOne();
        due.no("it did so from the beginning", x.off(2));
        due.yes("off", x.off(1));
        due.no("it does so now", x.off(1));
        due.is("its shelf", x.tell(1, 4), -1);
        due.is("its PLACE", x.tell(1, 5), -1);
        due.is("the shelf", Due.stacked(x, 0), "");
        due.is("the other one", x.tell(0, 4), 2);
    }

    private static void tell() {
        due.sentence("Of a BOOK, what 0: its KIND, 1: MARK, 2: width (as told), 3: the last VOLUME (of BOUND ones, else 0), 4: its shelf, 5: PLACE, 6, 7: its DUMMY's (NONE for nowhere). NONE if there is none such, or for another what.");
        ShelfCart x = tallOne();
        x.dummy(0, 1, 29);
        due.taken("the BOOK", 0, 2, -1, book -> x.tell(book, 0));
        due.taken("what", 0, 7, -1, what -> x.tell(0, what));
        int boxed = x.book(BOXED, 2, 190, 7);
        due.is("a BOXED one's width, as told", x.tell(boxed, 2), 190);
        due.is("a BOXED one's last VOLUME", x.tell(boxed, 3), 0);
        for (int what = 4; what < 8; what++) {
            due.is("nowhere: what " + what, x.tell(boxed, what), -1);
        }
        due.is("its DUMMY's shelf", x.tell(0, 6), 1);
        due.is("its DUMMY's PLACE", x.tell(0, 7), 29);
        due.is("no DUMMY", x.tell(1, 6), -1);
    }

    private static void place() {
        due.sentence("At a PLACE, the BOOK, or, 1000 more, the BOOK whose DUMMY stands there; NONE if nothing does, or there is none such.");
        ShelfCart x = tallOne();
        due.is("a TALL one", x.place(2, 0), 0);
        due.is("a PLAIN one", x.place(0, 0), 1);
        x.stand(1, 1, 29);
        x.dummy(0, 0, 29);
        due.is("the last PLACE", x.place(1, 29), 1);
        due.is("a DUMMY", x.place(0, 29), 1000);
        due.is("nothing", x.place(0, 0), -1);
        due.is("PLACE 30", x.place(0, 30), -1);
        due.is("PLACE -1, behind the shelf ahead", x.place(1, -1), -1);
        due.is("PLACE 30, ahead of the next shelf", x.place(1, 30), -1);
        due.is("shelf -1", x.place(-1, 29), -1);
        due.is("shelf 4", x.place(4, 0), -1);
    }

    private static void room() {
        due.sentence("ROOM of a shelf y years from now. -1000000: there is no such shelf, or y is not 0 .. 60.");
        due.sentence("ROOM of a shelf is its width less that of all BOOKS (BOXED: 10 more) and DUMMIES there (below 0, if they take more).");
        due.taken("the shelf", 0, 3, -1000000, shelf -> stacks().room(shelf, 0));
        due.taken("the years", 0, 60, -1000000, y -> stacks().room(3, y));
        ShelfCart x = new ShelfCart();
        x.shelf(100, false);
        x.shelf(100, true);
        Due.marks(x, "A1");
        due.is("empty", x.room(0, 0), 100);
        int boxed = x.book(BOXED, 0, 90, 0);
        x.stand(boxed, 0, 29);
        due.is("90 and 10 more", x.room(0, 0), 0);
        int tall = x.book(TALL, 0, 101, 0);
        x.stand(tall, 1, 0);
        due.is("101 of 100", x.room(1, 0), -1);
        x.dummy(tall, 0, 0);
        due.is("a DUMMY, 5", x.room(0, 0), -5);
        for (int k = 1; k < 29; k++) {
            Due.standing(x, 0, 200, 0, k);
        }
        due.is("all PLACES, far below 0", x.room(0, 0), -5605);
        due.is("in 60 years", x.room(0, 60), -5605);
    }

    private static void inOrder() {
        due.sentence("IN ORDER is a shelf, a row, of which no MARK is behind (SORTED) one that stands behind it.");
        due.sentence("The first PLACE of a shelf whose MARK is ahead (SORTED) of the one that stands next ahead of it; NONE if it is IN ORDER. -2: there is no such shelf.");
        due.taken("the shelf", 0, 3, -2, shelf -> stacks().check(shelf));
        ShelfCart x = stacks();
        due.is("nothing stands there", x.check(0), -1);
        int second = Due.standing(x, 2, 10, 0, 29);
        due.is("one", x.check(0), -1);
        int first = Due.standing(x, 0, 10, 0, 0);
        due.is("A C at the ends", x.check(0), -1);
        x.off(first);
        x.off(second);
        x.stand(second, 0, 0);
        x.stand(first, 0, 29);
        due.is("C A at the ends", x.check(0), 29);
        Due.standing(x, 2, 10, 0, 15);
        due.is("C C A", x.check(0), 29);
        Due.standing(x, 0, 10, 0, 1);
        due.is("C A C A: the first one", x.check(0), 1);
        due.is("an empty one", x.check(3), -1);
        ShelfCart y = stacks();
        Due.standing(y, 0, 10, 0, 3);
        Due.standing(y, 0, 10, 0, 4);
        due.is("like ones are IN ORDER", y.check(0), -1);
    }

    private static void twelveGrowths() {
        due.sentence("A GROWTH (at most 12): of the MARKS from one to another (not behind it: SORTED, by WAY 0), so many millimetres a year, 1 .. 1000.");
        due.sentence("NONE: there are 12, one is no MARK, the second one is ahead of the first by WAY 0, or other millimetres.");
        due.taken("millimetres", 1, 1000, -1, millimetres -> stacks().grow(0, 2, millimetres));
        due.taken("from", 0, 2, -1, from -> stacks().grow(from, 2, 5));
        due.taken("to", 0, 2, -1, to -> stacks().grow(0, to, 5));
        due.taken("to, from 1 on", 1, 2, -1, to -> stacks().grow(1, to, 5));
        ShelfCart x = stacks();
        for (int k = 1; k <= 12; k++) {
            due.is("refused", x.grow(2, 0, 5), -1);
            due.is("the GROWTH " + k, x.grow(0, 2, 5), k);
        }
        due.is("the 13th", x.grow(0, 2, 5), -1);
        due.is("count(4)", x.count(4), 12);
        Due.standing(x, 1, 10, 0, 0);
        due.is("all twelve count", x.room(0, 1), 430);
        ShelfCart y = new ShelfCart();
        Due.marks(y, ".15|.2|.15 c1");
        for (int way = 0; way < 2; way++) {
            y.way(way);
            due.is("from .15 to .2, WAY " + way, y.grow(0, 1, 5), way * 3 + 1);
            due.is("from .2 to .15, WAY " + way, y.grow(1, 0, 5), -1);
            due.is("from one to itself", y.grow(1, 1, 5), way * 3 + 2);
            due.is("to one that begins with it", y.grow(0, 2, 5), way * 3 + 3);
            due.is("from one that begins with it", y.grow(2, 0, 5), -1);
        }
    }

    private static void booksOfAGrowth() {
        due.sentence("Its BOOKS are those that stand, with such MARKS (DUMMIES aside).");
        ShelfCart x = new ShelfCart();
        x.shelf(1000, false);
        x.shelf(1000, true);
        Due.marks(x, "A1|A2|A2.1|A3|A3 c1|A4");
        x.grow(1, 3, 60);
        int[] marks = {0, 1, 2, 3, 4, 5};
        boolean[] ofIt = {false, true, true, true, false, false};
        for (int k = 0; k < marks.length; k++) {
            int book = x.book(PLAIN, marks[k], 100, 0);
            due.is("MARK " + k + ", nowhere", x.room(0, 10), 1000);
            x.stand(book, 0, 0);
            due.is("MARK " + k, x.room(0, 10), ofIt[k] ? 300 : 900);
            x.off(book);
        }
        int tall = x.book(TALL, 2, 100, 0);
        x.stand(tall, 1, 0);
        x.dummy(tall, 0, 0);
        due.is("a TALL one", x.room(1, 10), 300);
        due.is("its DUMMY aside", x.room(0, 10), 995);
        for (int way = 0; way < 2; way++) {
            String[] texts = {".149", ".15", ".2", ".45", ".5", ".51", ".9"};
            for (int k = 0; k < texts.length; k++) {
                ShelfCart y = new ShelfCart();
                y.shelf(100, false);
                y.way(way);
                Due.marks(y, ".15|.5");
                y.grow(0, 1, 7);
                Due.standing(y, Due.mark(y, texts[k]), 10, 0, 0);
                due.is("from .15 to .5 by WAY 0: " + texts[k], y.room(0, 1), k >= 1 && k <= 4 ? 83 : 90);
            }
        }
    }

    private static void cutUp() {
        due.sentence("In y years (0 .. 60) a shelf with k of all n BOOKS of a GROWTH has y * millimetres * k / n, cut up, less room by it (none, if n is 0), and so of each GROWTH.");
        ShelfCart x = new ShelfCart();
        x.shelf(2000, false);
        x.shelf(2000, false);
        Due.marks(x, "A1");
        x.grow(0, 0, 1);
        Due.standing(x, 0, 1, 0, 0);
        Due.standing(x, 0, 1, 1, 0);
        Due.standing(x, 0, 1, 1, 1);
        int[] one = {0, 1, 1, 1, 2, 2, 2, 3};
        int[] two = {0, 1, 2, 2, 3, 4, 4, 5};
        for (int y = 0; y < one.length; y++) {
            due.is("1 of 3, y " + y, x.room(0, y), 1999 - one[y]);
            due.is("2 of 3, y " + y, x.room(1, y), 1998 - two[y]);
        }
        due.is("1 of 3, y 60", x.room(0, 60), 1979);
        due.is("1 of 3, y 59", x.room(0, 59), 1979);
        due.is("1 of 3, y 58", x.room(0, 58), 1979);
        due.is("1 of 3, y 57", x.room(0, 57), 1980);
        x.grow(0, 0, 1);
        due.is("each cut up of itself", x.room(0, 1), 1997);
        due.is("each cut up of itself", x.room(0, 4), 1995);
    }

    private static void noBooksOfAGrowth() {
        ShelfCart x = stacks();
        x.grow(0, 0, 1000);
        x.grow(2, 2, 10);
        due.is("n is 0", x.room(0, 60), 500);
        int book = Due.standing(x, 0, 10, 1, 0);
        due.is("k is 0", x.room(0, 60), 500);
        due.is("k is n", x.room(1, 60), 490 - 60000);
        x.off(book);
        due.is("n is 0 again", x.room(1, 60), 500);
        due.is("full", x.full(), -1);
    }

    /** The greatest numbers that the document lets come together. */
    private static void mostGrown() {
        ShelfCart x = new ShelfCart();
        x.shelf(100, false);
        Due.marks(x, "A1");
        for (int k = 0; k < 12; k++) {
            x.grow(0, 0, 1000);
        }
        for (int k = 0; k < 30; k++) {
            Due.standing(x, 0, 200, 0, k);
        }
        due.is("12 GROWTHS of 60 metres", x.room(0, 60), 100 - 6000 - 720000);
        due.is("in a year", x.room(0, 1), 100 - 6000 - 12000);
        due.is("full", x.full(), 0);
    }

    private static void full() {
        due.sentence("The first year, 0 .. 60, in which a shelf has ROOM below 0, times 100, and the least such shelf. NONE if there is none.");
        due.is("no shelves", new ShelfCart().full(), -1);
        ShelfCart x = new ShelfCart();
        for (int k = 0; k < 16; k++) {
            x.shelf(100, k == 3);
        }
        Due.marks(x, "A1");
        due.is("nothing stands", x.full(), -1);
        int full = Due.standing(x, 0, 100, 15, 0);
        due.is("ROOM 0", x.full(), -1);
        int more = Due.standing(x, 0, 1, 15, 1);
        due.is("ROOM -1 on the last shelf", x.full(), 15);
        int tall = x.book(TALL, 0, 101, 0);
        x.stand(tall, 3, 0);
        due.is("a HIGH shelf counts, too", x.full(), 3);
        Due.standing(x, 0, 101, 0, 0);
        due.is("the least one", x.full(), 0);
        due.is("the other ones are as full", x.room(15, 0), -1);
        x.off(full);
        x.off(more);
        due.is("still", x.full(), 0);
    }

    private static void fullAtTheLast() {
        for (int width : new int[] {39, 40, 41}) {
            ShelfCart x = new ShelfCart();
            x.shelf(100, false);
            Due.marks(x, "A1");
            x.grow(0, 0, 1);
            Due.standing(x, 0, width, 0, 0);
            due.is("ROOM of year 60 with " + width, x.room(0, 60), 40 - width);
            due.is("full with " + width, x.full(), width == 41 ? 6000 : -1);
        }
        ShelfCart x = new ShelfCart();
        x.shelf(100, false);
        x.shelf(100, false);
        Due.marks(x, "A1|B1");
        x.grow(0, 0, 10);
        x.grow(1, 1, 11);
        Due.standing(x, 0, 50, 0, 0);
        Due.standing(x, 1, 50, 1, 0);
        due.is("year 5 of shelf 1, ahead of year 6 of shelf 0", x.full(), 501);
        x.grow(0, 0, 1);
        due.is("year 5 of both", x.full(), 500);
    }
}
