/** Promises 11 to 18 and 32: shelves, BOOKS, what stands where, ROOM of now, shelves IN ORDER. */
public final class ShelvesTest {
    private static final Due due = new Due("ShelvesTest");

    public static void main(String[] args) {
        shelves();
        books();
        boundBooks();
        manyBooks();
        standing();
        dummies();
        off();
        places();
        roomOfNow();
        check();
        due.end();
    }

    private static void shelves() {
        ShelfCart x = new ShelfCart();
        due.is("shelf(99)", x.shelf(99, false), -1);
        due.is("shelf(2001)", x.shelf(2001, true), -1);
        due.is("shelf(-1)", x.shelf(-1, true), -1);
        due.is("shelf(max)", x.shelf(Integer.MAX_VALUE, false), -1);
        due.is("no shelf is made", x.count(1), 0);
        for (int k = 0; k < 16; k++) {
            due.is("shelf " + k, x.shelf(k % 2 == 0 ? 100 : 2000, k % 3 == 0), k);
        }
        due.is("the 17th", x.shelf(100, false), -1);
        due.is("count(1)", x.count(1), 16);
        due.is("room(14, 0)", x.room(14, 0), 100);
        due.is("room(15, 0)", x.room(15, 0), 2000);
    }

    private static void books() {
        ShelfCart x = new ShelfCart();
        due.is("no MARK", x.book(0, 0, 10, 0), -1);
        Due.marks(x, "A|B v3");
        due.is("width 0", x.book(0, 0, 0, 0), -1);
        due.is("width 201", x.book(0, 0, 201, 0), -1);
        due.is("kind -1", x.book(-1, 0, 10, 0), -1);
        due.is("kind 4", x.book(4, 0, 10, 0), -1);
        due.is("mark 2", x.book(0, 2, 10, 0), -1);
        due.is("mark -1", x.book(0, -1, 10, 0), -1);
        due.is("no BOOK is made", x.count(2), 0);
        due.is("PLAIN", x.book(0, 0, 1, -5), 0);
        due.is("TALL", x.book(1, 1, 200, 1000), 1);
        due.is("BOUND", x.book(2, 1, 7, 4), 2);
        due.is("BOXED", x.book(3, 0, 200, 4), 3);
        due.is("count(2)", x.count(2), 4);
        told(x, 0, 0, 0, 1, 0);
        told(x, 1, 1, 1, 200, 0);
        told(x, 2, 2, 1, 7, 4);
        told(x, 3, 3, 0, 200, 0);
        told(x, 4, -1, -1, -1, -1);
        told(x, -1, -1, -1, -1, -1);
        due.is("tell(0, 8)", x.tell(0, 8), -1);
        due.is("tell(0, -1)", x.tell(0, -1), -1);
    }

    private static void told(ShelfCart x, int book, int... wanted) {
        for (int what = 0; what < 4; what++) {
            due.is("tell(" + book + ", " + what + ")", x.tell(book, what), wanted[what]);
        }
        for (int what = 4; what < 8; what++) {
            due.is("tell(" + book + ", " + what + ")", x.tell(book, what), -1);
        }
    }

    private static void boundBooks() {
        ShelfCart x = new ShelfCart();
        Due.marks(x, "A|B v3|B v3 c2|B c4|v999");
        due.is("no VOLUME", x.book(2, 0, 10, 5), -1);
        due.is("a COPY is no VOLUME", x.book(2, 3, 10, 5), -1);
        due.is("last below", x.book(2, 1, 10, 2), -1);
        due.is("last above 999", x.book(2, 1, 10, 1000), -1);
        due.is("last as the first", x.book(2, 1, 10, 3), 0);
        due.is("last 999", x.book(2, 1, 10, 999), 1);
        due.is("ahead of a COPY", x.book(2, 2, 10, 3), 2);
        due.is("ahead of a COPY, below", x.book(2, 2, 10, 2), -1);
        due.is("999", x.book(2, 4, 10, 999), 3);
        due.is("tell(0, 3)", x.tell(0, 3), 3);
        due.is("tell(1, 3)", x.tell(1, 3), 999);
    }

    private static void manyBooks() {
        ShelfCart x = new ShelfCart();
        Due.marks(x, "A");
        for (int k = 0; k < 200; k++) {
            due.is("book " + k, x.book(0, 0, 1, 0), k);
        }
        due.is("the 201st", x.book(0, 0, 1, 0), -1);
        due.is("count(2)", x.count(2), 200);
        due.is("tell(199, 2)", x.tell(199, 2), 1);
        due.is("tell(200, 2)", x.tell(200, 2), -1);
    }

    /** Shelves 0 and 2 COMMON, 1 and 3 HIGH; BOOKS 0 PLAIN, 1 TALL, 2 BOUND, 3 BOXED, 4 TALL. */
    private static ShelfCart stacks() {
        ShelfCart x = new ShelfCart();
        for (int k = 0; k < 4; k++) {
            x.shelf(300, k % 2 == 1);
        }
        Due.marks(x, "A1 v1|B1|C1|D1|E1");
        x.book(0, 3, 20, 0);
        x.book(1, 1, 50, 0);
        x.book(2, 0, 30, 2);
        x.book(3, 2, 10, 0);
        x.book(1, 4, 60, 0);
        return x;
    }

    private static void standing() {
        ShelfCart x = stacks();
        due.no("no BOOK", x.stand(5, 0, 0));
        due.no("no BOOK", x.stand(-1, 0, 0));
        due.no("no shelf", x.stand(0, 4, 0));
        due.no("no shelf", x.stand(0, -1, 0));
        due.no("no PLACE", x.stand(0, 0, 30));
        due.no("no PLACE", x.stand(0, 0, -1));
        due.no("PLAIN on HIGH", x.stand(0, 1, 0));
        due.no("BOUND on HIGH", x.stand(2, 1, 0));
        due.no("BOXED on HIGH", x.stand(3, 1, 0));
        due.no("TALL on COMMON", x.stand(1, 0, 0));
        due.is("nobody stands", x.tell(0, 4), -1);
        due.yes("stand(0, 0, 29)", x.stand(0, 0, 29));
        due.yes("stand(2, 0, 0)", x.stand(2, 0, 0));
        due.no("something is there", x.stand(3, 0, 0));
        due.no("itself is there", x.stand(2, 0, 0));
        due.yes("stand(2, 2, 5)", x.stand(2, 2, 5));
        due.is("its old PLACE is empty", Due.stacked(x, 0), "29:0");
        due.is("its new one is not", Due.stacked(x, 2), "5:2");
        due.is("tell(2, 4)", x.tell(2, 4), 2);
        due.is("tell(2, 5)", x.tell(2, 5), 5);
        due.no("a refusal changes nothing", x.stand(2, 0, 29));
        due.is("tell(2, 4)", x.tell(2, 4), 2);
        due.yes("TALL on HIGH", x.stand(1, 1, 7));
        due.is("tell(1, 5)", x.tell(1, 5), 7);
        due.no("a BOOK where a DUMMY is", x.dummy(1, 0, 3) && x.stand(0, 0, 3));
    }

    private static void dummies() {
        ShelfCart x = stacks();
        due.no("it stands nowhere", x.dummy(1, 0, 0));
        x.stand(1, 1, 0);
        x.stand(0, 0, 0);
        due.no("not TALL", x.dummy(0, 0, 1));
        due.no("no BOOK", x.dummy(5, 0, 1));
        due.no("no BOOK", x.dummy(-1, 0, 1));
        due.no("no shelf", x.dummy(1, 4, 1));
        due.no("no shelf", x.dummy(1, -1, 1));
        due.no("no PLACE", x.dummy(1, 0, 30));
        due.no("no PLACE", x.dummy(1, 0, -1));
        due.no("HIGH", x.dummy(1, 3, 1));
        due.no("something is there", x.dummy(1, 0, 0));
        due.is("no DUMMY", x.tell(1, 6), -1);
        due.yes("dummy(1, 0, 1)", x.dummy(1, 0, 1));
        due.no("itself is there", x.dummy(1, 0, 1));
        due.is("place(0, 1)", x.place(0, 1), 1001);
        due.yes("dummy(1, 2, 29)", x.dummy(1, 2, 29));
        due.is("its old PLACE is empty", Due.stacked(x, 0), "0:0");
        due.is("tell(1, 6)", x.tell(1, 6), 2);
        due.is("tell(1, 7)", x.tell(1, 7), 29);
        x.stand(4, 1, 1);
        due.no("another one's DUMMY is there", x.dummy(4, 2, 29));
        due.yes("the BOOK goes elsewhere", x.stand(1, 3, 4));
        due.is("its DUMMY stays", x.place(2, 29), 1001);
        due.is("tell(1, 4)", x.tell(1, 4), 3);
        due.is("tell(1, 6)", x.tell(1, 6), 2);
    }

    private static void off() {
        ShelfCart x = stacks();
        due.no("it stands nowhere", x.off(0));
        due.no("no BOOK", x.off(5));
        due.no("no BOOK", x.off(-1));
        x.stand(1, 1, 2);
        x.stand(0, 0, 2);
        x.dummy(1, 0, 3);
        due.yes("off(1)", x.off(1));
        due.no("off(1) again", x.off(1));
        due.is("the HIGH shelf", Due.stacked(x, 1), "");
        due.is("the COMMON shelf", Due.stacked(x, 0), "2:0");
        for (int what = 4; what < 8; what++) {
            due.is("tell(1, " + what + ")", x.tell(1, what), -1);
        }
        due.no("no DUMMY of one that stands nowhere", x.dummy(1, 0, 3));
        due.yes("it may stand again", x.stand(1, 1, 2));
        due.is("without its DUMMY", x.tell(1, 6), -1);
        due.yes("off(0)", x.off(0));
        due.is("the COMMON shelf", Due.stacked(x, 0), "");
    }

    private static void places() {
        ShelfCart x = stacks();
        x.stand(2, 0, 4);
        x.stand(4, 3, 29);
        x.dummy(4, 0, 0);
        due.is("place(0, 4)", x.place(0, 4), 2);
        due.is("place(3, 29)", x.place(3, 29), 4);
        due.is("place(0, 0)", x.place(0, 0), 1004);
        due.is("place(0, 1)", x.place(0, 1), -1);
        due.is("place(3, 30)", x.place(3, 30), -1);
        due.is("place(0, -1)", x.place(0, -1), -1);
        due.is("place(-1, 0)", x.place(-1, 0), -1);
        due.is("place(4, 0)", x.place(4, 0), -1);
        due.is("place(max, max)", x.place(Integer.MAX_VALUE, Integer.MAX_VALUE), -1);
    }

    private static void roomOfNow() {
        ShelfCart x = stacks();
        x.stand(0, 0, 0);
        due.is("PLAIN 20", x.room(0, 0), 280);
        x.stand(2, 0, 1);
        due.is("BOUND 30", x.room(0, 0), 250);
        x.stand(3, 0, 2);
        due.is("BOXED 10", x.room(0, 0), 230);
        x.stand(1, 1, 0);
        due.is("TALL 50", x.room(1, 0), 250);
        x.dummy(1, 0, 5);
        due.is("DUMMY", x.room(0, 0), 225);
        due.is("without GROWTHS", x.room(0, 60), 225);
        x.off(1);
        due.is("off", x.room(0, 0), 230);
        due.is("y -1", x.room(0, -1), -1000000);
        due.is("y 61", x.room(0, 61), -1000000);
        due.is("no shelf", x.room(4, 0), -1000000);
        due.is("no shelf", x.room(-1, 0), -1000000);
        int narrow = x.shelf(100, false);
        Due.standing(x, 0, 60, narrow, 0);
        Due.standing(x, 0, 60, narrow, 1);
        due.is("below 0", x.room(narrow, 0), -20);
    }

    private static void check() {
        ShelfCart x = stacks();
        due.is("no shelf", x.check(4), -2);
        due.is("no shelf", x.check(-1), -2);
        due.is("an empty one", x.check(0), -1);
        x.stand(2, 0, 3);
        due.is("one BOOK", x.check(0), -1);
        x.stand(3, 0, 7);
        due.is("A C", x.check(0), -1);
        x.stand(1, 1, 0);
        x.dummy(1, 0, 29);
        due.is("A C, a DUMMY B", x.check(0), 29);
        x.dummy(1, 0, 5);
        due.is("A, a DUMMY B, C", x.check(0), -1);
        x.stand(0, 0, 0);
        due.is("D A B C", x.check(0), 3);
        x.stand(0, 0, 6);
        due.is("A B D C", x.check(0), 7);
        int like = x.book(0, 3, 1, 0);
        x.off(3);
        x.stand(like, 0, 7);
        due.is("A B D D", x.check(0), -1);

        ShelfCart y = new ShelfCart();
        y.shelf(100, false);
        Due.marks(y, ".15|.5");
        Due.standing(y, 0, 5, 0, 0);
        Due.standing(y, 1, 5, 0, 1);
        due.is("by WAY 0", y.check(0), -1);
        y.way(1);
        due.is("by WAY 1", y.check(0), 1);
    }
}
