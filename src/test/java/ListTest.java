/** Promises 27 to 31: DONE, the LIST, GONE, DOUBLED and FOUND. */
public final class ListTest {
    private static final Due due = new Due("ListTest");

    public static void main(String[] args) {
        listing();
        wholeList();
        gone();
        doubled();
        latestReading();
        foundElsewhere();
        goneAgain();
        forgetting();
        toAnotherShelf();
        listedLater();
        wrongAsks();
        due.end();
    }

    /** MARKS 0 to 5 are A0 .. A5; three shelves. */
    private static ShelfCart cart() {
        ShelfCart x = new ShelfCart();
        x.shelf(500, false);
        x.shelf(500, false);
        x.shelf(500, true);
        Due.marks(x, "A0|A1|A2|A3|A4|A5");
        return x;
    }

    private static int doneOf(ShelfCart x, int shelf, int... marks) {
        Due.reading(x, shelf, marks);
        return x.done();
    }

    private static String foundOf(ShelfCart x, int shelf, int what) {
        StringBuilder row = new StringBuilder();
        for (int k = 0; x.found(shelf, what, k) != -1; k++) {
            row.append(k == 0 ? "" : " ").append(x.found(shelf, what, k));
        }
        return row.toString();
    }

    private static void listing() {
        ShelfCart x = cart();
        due.no("no MARK", x.list(6, 0));
        due.no("no MARK", x.list(-1, 0));
        due.no("no shelf", x.list(0, 3));
        due.no("no shelf", x.list(0, -1));
        due.is("count(3)", x.count(3), 0);
        due.yes("list(4, 1)", x.list(4, 1));
        due.yes("list(2, 2)", x.list(2, 2));
        due.is("count(3)", x.count(3), 2);
        due.is("listed(4)", x.listed(4), 1);
        due.yes("list(4, 0)", x.list(4, 0));
        due.yes("list(4, 0) again", x.list(4, 0));
        due.is("count(3)", x.count(3), 2);
        due.is("listed(4)", x.listed(4), 0);
        due.no("list(4, 3)", x.list(4, 3));
        due.is("listed(4) stays", x.listed(4), 0);
        due.is("listed(0)", x.listed(0), -1);
        due.is("listed(6)", x.listed(6), -1);
        due.is("listed(-1)", x.listed(-1), -1);
        due.no("forget(0)", x.forget(0));
        due.no("forget(6)", x.forget(6));
        due.no("forget(-1)", x.forget(-1));
        due.yes("forget(4)", x.forget(4));
        due.no("forget(4) again", x.forget(4));
        due.is("listed(4)", x.listed(4), -1);
        due.is("count(3)", x.count(3), 1);
    }

    private static void wholeList() {
        ShelfCart x = new ShelfCart();
        x.shelf(100, false);
        for (int k = 0; k < 200; k++) {
            Due.mark(x, "" + k);
        }
        for (int k = 0; k < 200; k++) {
            due.yes("list", x.list(k, 0));
        }
        due.is("count(3)", x.count(3), 200);
        due.is("all are GONE", doneOf(x, 0), 200);
        due.is("the last one", x.found(0, 0, 199), 199);
        due.is("none more", x.found(0, 0, 200), -1);
    }

    private static void gone() {
        ShelfCart x = cart();
        due.is("none at hand", x.done(), -1);
        x.list(5, 0);
        x.list(1, 0);
        x.list(3, 0);
        x.list(2, 1);
        due.is("not READ", foundOf(x, 0, 0), "");
        due.is("5 and 1 are GONE", doneOf(x, 0, 4, 3, 0), 2);
        due.is("none at hand", x.count(5), -1);
        due.is("none at hand", x.count(6), -1);
        due.is("none at hand", x.done(), -1);
        due.is("by number", foundOf(x, 0, 0), "1 5");
        due.is("not READ", foundOf(x, 1, 0), "");
        x.list(0, 1);
        x.list(2, 0);
        due.is("what the LIST has now", foundOf(x, 0, 0), "1 2 5");
        x.forget(1);
        x.list(5, 1);
        due.is("what the LIST has now", foundOf(x, 0, 0), "2");
        due.is("0 and 5 are GONE", doneOf(x, 1), 2);
    }

    private static void doubled() {
        ShelfCart x = cart();
        doneOf(x, 0, 5, 2, 5, 1, 2, 2, 3);
        due.is("by number, each once", foundOf(x, 0, 1), "2 5");
        x.list(5, 1);
        due.is("the LIST is not asked", foundOf(x, 0, 1), "2 5");
        due.is("another shelf", foundOf(x, 1, 1), "");
        doneOf(x, 1, 5);
        due.is("two READINGS are not one", foundOf(x, 1, 1), "");
        doneOf(x, 0, 5);
        due.is("the latest one", foundOf(x, 0, 1), "");
    }

    private static void latestReading() {
        ShelfCart x = cart();
        x.list(0, 0);
        due.is("done", doneOf(x, 0), 1);
        Due.reading(x, 0, 0);
        due.is("not DONE yet", foundOf(x, 0, 0), "0");
        due.is("not DONE yet", foundOf(x, 0, 2), "");
        x.run(1, false);
        due.is("it was never DONE", foundOf(x, 0, 0), "0");
        due.is("done", x.done(), 0);
        due.is("shelf 0 is as it was", foundOf(x, 0, 0), "0");
        due.is("done", doneOf(x, 0, 3, 2, 0), 0);
        due.is("WRONG ones are there, too", foundOf(x, 0, 0), "");
    }

    private static void foundElsewhere() {
        ShelfCart x = cart();
        x.list(0, 0);
        x.list(1, 0);
        x.list(2, 1);
        doneOf(x, 2, 0, 1, 2);
        due.is("read earlier is not FOUND", foundOf(x, 0, 2), "");
        doneOf(x, 0, 1);
        due.is("not FOUND by an earlier READING", foundOf(x, 0, 2), "");
        doneOf(x, 2, 1, 2, 0);
        due.is("FOUND on another shelf", foundOf(x, 0, 2), "0");
        due.is("still GONE of its own", foundOf(x, 0, 0), "0");
        due.is("2 was never GONE", foundOf(x, 1, 2), "");
        doneOf(x, 2);
        due.is("FOUND stays", foundOf(x, 0, 2), "0");
        doneOf(x, 0, 0, 1);
        due.is("FOUND stays at its own shelf", foundOf(x, 0, 2), "0");
    }

    private static void goneAgain() {
        ShelfCart x = cart();
        x.list(0, 0);
        doneOf(x, 0);
        doneOf(x, 1, 0);
        due.is("FOUND", foundOf(x, 0, 2), "0");
        doneOf(x, 0, 3);
        due.is("GONE again", foundOf(x, 0, 2), "");
        due.is("GONE again", foundOf(x, 0, 0), "0");
        doneOf(x, 0, 0);
        due.is("FOUND again", foundOf(x, 0, 2), "0");
    }

    private static void forgetting() {
        ShelfCart x = cart();
        x.list(0, 0);
        x.list(1, 0);
        doneOf(x, 0);
        doneOf(x, 1, 0);
        due.is("FOUND", foundOf(x, 0, 2), "0");
        x.forget(0);
        due.is("forgotten", foundOf(x, 0, 2), "");
        x.list(0, 0);
        due.is("listed anew, it is not FOUND", foundOf(x, 0, 2), "");
        due.is("but GONE", foundOf(x, 0, 0), "0 1");
        doneOf(x, 1, 0);
        due.is("its being GONE was forgotten, too", foundOf(x, 0, 2), "");
        x.forget(1);
        doneOf(x, 1, 1);
        x.list(1, 0);
        due.is("forgotten before it was read", foundOf(x, 0, 2), "");
    }

    private static void toAnotherShelf() {
        ShelfCart x = cart();
        x.list(0, 0);
        x.list(1, 0);
        doneOf(x, 0);
        doneOf(x, 1, 0);
        x.list(0, 1);
        due.is("FOUND that the LIST has of shelf 0", foundOf(x, 0, 2), "");
        due.is("FOUND that the LIST has of shelf 1", foundOf(x, 1, 2), "0");
        x.list(0, 2);
        due.is("shelf 2 is not READ", foundOf(x, 2, 2), "");
        x.list(1, 1);
        doneOf(x, 2, 1);
        due.is("it was GONE of its shelf of then", foundOf(x, 1, 2), "1");
        due.is("it is GONE of its shelf of now", foundOf(x, 2, 2), "");
    }

    private static void listedLater() {
        ShelfCart x = cart();
        doneOf(x, 0);
        x.list(0, 0);
        due.is("GONE", foundOf(x, 0, 0), "0");
        doneOf(x, 1, 0);
        due.is("not GONE when the READING was DONE", foundOf(x, 0, 2), "");
        doneOf(x, 0);
        doneOf(x, 1, 0);
        due.is("GONE when it was DONE", foundOf(x, 0, 2), "0");
    }

    private static void wrongAsks() {
        ShelfCart x = cart();
        x.list(0, 0);
        x.list(1, 0);
        doneOf(x, 0, 2, 2, 3, 3);
        doneOf(x, 0, 0, 0);
        due.is("k -1", x.found(0, 0, -1), -1);
        due.is("k 1", x.found(0, 0, 1), -1);
        due.is("k max", x.found(0, 0, Integer.MAX_VALUE), -1);
        due.is("k min", x.found(0, 0, Integer.MIN_VALUE), -1);
        due.is("what 3", x.found(0, 3, 0), -1);
        due.is("what -1", x.found(0, -1, 0), -1);
        due.is("no shelf", x.found(3, 0, 0), -1);
        due.is("no shelf", x.found(-1, 0, 0), -1);
        due.is("not READ", x.found(1, 0, 0), -1);
        due.is("GONE", x.found(0, 0, 0), 1);
        due.is("DOUBLED", x.found(0, 1, 0), 0);
        due.is("FOUND", x.found(0, 2, 0), 0);
    }
}
