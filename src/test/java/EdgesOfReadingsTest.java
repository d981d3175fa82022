/** Term 3 and promises 19 to 31, sentence by sentence: what is just taken, what just not. */
public final class EdgesOfReadingsTest {
    private static final Due due = new Due("EdgesOfReadingsTest");

    public static void main(String[] args) {
        run();
        sixtyMarks();
        read();
        longestRow();
        leastPlaces();
        order();
        shorterOne();
        fewest();
        nextMove();
        moveEnds();
        where();
        whereInOrder();
        between();
        done();
        list();
        twoHundredListed();
        forget();
        listed();
        gone();
        doubled();
        isFound();
        isFoundNoMore();
        found();
        due.end();
    }

    /** MARKS 0 to 9 are A0 .. A9; shelves 0 and 1 COMMON, 2 HIGH. */
    private static ShelfCart cart() {
        ShelfCart x = new ShelfCart();
        x.shelf(500, false);
        x.shelf(500, false);
        x.shelf(500, true);
        Due.marks(x, "A0|A1|A2|A3|A4|A5|A6|A7|A8|A9");
        return x;
    }

    /** With a READING of shelf 0, of these MARKS, at hand. */
    private static ShelfCart reading(int... marks) {
        ShelfCart x = cart();
        Due.reading(x, 0, marks);
        return x;
    }

    private static int doneOf(ShelfCart x, int shelf, int... marks) {
        Due.reading(x, shelf, marks);
        return x.done();
    }

    private static String foundOf(ShelfCart x, int shelf, int what) {
        StringBuilder row = new StringBuilder();
        for (int k = 0; x.found(shelf, what, k) != -1; k++) {
            row.append(k == 0 ? "" : " ").append(x.found(shelf, what, k));
        }
        return row.toString();
    }

    private static String placesOf(ShelfCart x, boolean right) {
        StringBuilder row = new StringBuilder();
        for (int k = 0; x.order(right, k) != -1; k++) {
            row.append(k == 0 ? "" : " ").append(x.order(right, k));
        }
        return row.toString();
    }

    private static void run() {
        due.sentence("A READING of a shelf is at hand, of no MARKS; or, if whole, of those that stand there, by PLACES. False: there is no such shelf.");
        due.sentence("One is at hand, or none.");
        due.taken("run(.., false)", 0, 2, 0, shelf -> Due.number(cart().run(shelf, false)));
        due.taken("run(.., true)", 0, 2, 0, shelf -> Due.number(cart().run(shelf, true)));
        ShelfCart x = cart();
        due.is("none is at hand", x.count(6), -1);
        due.yes("run", x.run(0, true));
        due.is("nothing stands there", x.count(5), 0);
        x.seen(3);
        due.yes("another one", x.run(2, false));
        due.is("it has no MARKS", x.count(5), 0);
        due.is("its shelf", x.count(6), 2);
        due.is("the first was not DONE", x.found(0, 1, 0), -1);
        Due.standing(x, 4, 10, 1, 29);
        Due.standing(x, 2, 10, 1, 0);
        int tall = x.book(1, 9, 10, 0);
        x.stand(tall, 2, 29);
        x.dummy(tall, 1, 1);
        x.run(1, true);
        due.is("by PLACES, of a DUMMY its BOOK's", Due.row(x), "2 9 4");
        x.run(1, false);
        due.is("not whole", Due.row(x), "");
        x.run(2, true);
        due.is("the last PLACE of a HIGH one", Due.row(x), "9");
        x.off(tall);
        due.is("it has been read", Due.row(x), "9");
    }

    private static void sixtyMarks() {
        due.sentence("A READING is of a shelf: a row of at most 60 MARKS.");
        due.sentence("A MARK comes behind the READING at hand: how many it has. NONE: no READING is at hand, there is no such MARK, or it has 60.");
        due.is("none is at hand", cart().seen(0), -1);
        due.taken("seen", 0, 9, -1, mark -> reading().seen(mark));
        ShelfCart x = reading();
        for (int k = 1; k <= 60; k++) {
            due.is("no such MARK", x.seen(10), -1);
            due.is("the MARK " + k, x.seen(k % 10), k);
        }
        due.is("the 61st", x.seen(0), -1);
        due.is("count(5)", x.count(5), 60);
        due.is("the last one", x.read(59), 0);
        due.is("done", x.done(), 0);
        due.is("the DOUBLED ones", foundOf(x, 0, 1), "0 1 2 3 4 5 6 7 8 9");
        ShelfCart y = cart();
        for (int k = 0; k < 30; k++) {
            Due.standing(y, k % 10, 10, 0, k);
        }
        y.run(0, true);
        for (int k = 31; k <= 60; k++) {
            due.is("behind a whole shelf", y.seen(0), k);
        }
        due.is("the 61st", y.seen(0), -1);
    }

    private static void read() {
        due.sentence("The MARK at place k of the READING at hand. NONE if there is none such.");
        due.taken("read", 0, 2, -1, reading(7, 8, 9)::read);
        due.is("of no MARKS", reading().read(0), -1);
        due.is("none is at hand", cart().read(0), -1);
        ShelfCart x = reading(1, 2, 3);
        Due.reading(x, 1, 4);
        due.is("of a shorter one", x.read(1), -1);
        x.done();
        due.is("DONE", x.read(0), -1);
    }

    private static void rights(String name, ShelfCart x, String right, String wrong) {
        due.is(name + ": RIGHT", placesOf(x, true), right);
        due.is(name + ": WRONG", placesOf(x, false), wrong);
        due.is(name + ": fewest", x.fewest(), wrong.isEmpty() ? 0 : wrong.split(" ").length);
    }

    private static void longestRow() {
        due.sentence("RIGHT are those of the longest row of its MARKS (not necessarily next to one another) that is IN ORDER;");
        rights("no MARKS", reading(), "", "");
        rights("one", reading(5), "0", "");
        rights("two IN ORDER", reading(5, 6), "0 1", "");
        rights("two alike", reading(5, 5), "0 1", "");
        rights("two not IN ORDER", reading(6, 5), "0", "1");
        rights("not next to one another", reading(1, 9, 2, 8, 3, 4), "0 2 4 5", "1 3");
        rights("all alike", reading(3, 3, 3, 3), "0 1 2 3", "");
        rights("all the wrong way", reading(9, 8, 7, 6, 5), "0", "1 2 3 4");
        rights("the longest is at the end", reading(9, 8, 1, 2, 3), "2 3 4", "0 1");
        rights("alike ones make it longer", reading(5, 4, 6, 3, 3, 3), "3 4 5", "0 1 2");
    }

    private static void leastPlaces() {
        due.sentence("of several rows that whose first place is least, then the second, and so on. WRONG are the others.");
        rights("the first place", reading(8, 9, 1, 2), "0 1", "2 3");
        rights("the first place, not the second", reading(5, 1, 2, 6), "1 2 3", "0");
        rights("the first place, though later ones are greater", reading(5, 1, 2, 9, 6, 7), "1 2 4 5", "0 3");
        rights("the second place", reading(1, 4, 3, 5), "0 1 3", "2");
        rights("the last place", reading(1, 2, 4, 3), "0 1 2", "3");
        rights("of like ones the first", reading(3, 1, 1, 0), "1 2", "0 3");
        rights("at each step", reading(2, 1, 4, 3, 6, 5), "0 2 4", "1 3 5");
    }

    private static void order() {
        due.sentence("Of the READING at hand, the place of the k-th RIGHT one (right), or WRONG one. NONE if there is none such.");
        ShelfCart x = reading(4, 9, 5, 1, 6);
        due.taken("order(true, k)", 0, 2, -1, k -> x.order(true, k));
        due.taken("order(false, k)", 0, 1, -1, k -> x.order(false, k));
        due.is("no WRONG ones", reading(1, 2).order(false, 0), -1);
        due.is("no MARKS", reading().order(true, 0), -1);
        due.is("none is at hand", cart().order(true, 0), -1);
        due.is("none is at hand", cart().order(false, 0), -1);
    }

    /** A longer READING ahead leaves nothing behind. */
    private static void shorterOne() {
        ShelfCart x = reading(1, 2, 3, 4, 5);
        rights("five", x, "0 1 2 3 4", "");
        Due.reading(x, 1, 9, 8);
        rights("then two", x, "0", "1");
        Due.reading(x, 1);
        rights("then none", x, "", "");
    }

    private static void fewest() {
        due.sentence("How many MOVES put the READING at hand IN ORDER. NONE without one.");
        due.is("without one", cart().fewest(), -1);
        due.is("of no MARKS", reading().fewest(), 0);
        due.is("IN ORDER", reading(1, 1, 2).fewest(), 0);
        int[] row = {7, 3, 9, 3, 1, 8, 0, 2, 5, 4};
        ShelfCart x = reading(row);
        int moves = x.fewest();
        for (int k = moves; k > 0; k--) {
            due.is("each MOVE is one fewer", x.fewest(), k);
            due.no("a MOVE", x.move() == -1);
        }
        due.is("none more", x.move(), -1);
        due.is("IN ORDER", Due.row(x), "0 1 2 3 3 4 5 7 8 9");
    }

    private static void nextMove() {
        due.sentence("THE NEXT MOVE: the WRONG one with the least place is taken out; it comes right behind the last of the RIGHT ones that it is not ahead of (at the beginning, if there is none): its old place, its new one (counted without it).");
        move("to the beginning", 100, "1 5 6", 5, 1, 6);
        move("to the beginning from the end", 200, "0 5 6", 5, 6, 0);
        move("to the end", 2, "1 2 5", 5, 1, 2);
        move("to the end from the middle", 103, "1 2 3 9", 1, 9, 2, 3);
        move("behind a like one", 3, "1 2 5 5 6", 5, 1, 2, 5, 6);
        move("behind all like ones", 402, "4 4 4 5 6", 4, 4, 5, 6, 4);
        move("behind one that stands ahead of it", 301, "2 3 4 5", 2, 4, 5, 3);
        move("the least WRONG one first", 103, "1 5 6 8 2", 1, 8, 5, 6, 2);
        move("right behind it, ahead of another WRONG one", 103, "1 5 6 8 2 9", 1, 8, 5, 6, 2, 9);
    }

    /** The first MOVE of a READING of these MARKS, and what the READING is then. */
    private static void move(String name, int told, String row, int... marks) {
        ShelfCart x = reading(marks);
        due.is(name, x.move(), told);
        due.is(name, Due.row(x), row);
    }

    private static void moveEnds() {
        due.sentence("THE NEXT MOVE is made in the READING at hand: 100 times the old place, and the new one. NONE: there is none (it is IN ORDER, or none is at hand).");
        due.is("none is at hand", cart().move(), -1);
        due.is("of no MARKS", reading().move(), -1);
        due.is("of one", reading(4).move(), -1);
        due.is("of like ones", reading(4, 4).move(), -1);
        ShelfCart x = reading(5, 4);
        due.is("of two", x.move(), 100);
        due.is("once", x.move(), -1);
        due.is("the row", Due.row(x), "4 5");
        ShelfCart y = reading(9);
        for (int k = 1; k < 60; k++) {
            y.seen(k < 30 ? 3 : 4);
        }
        due.is("from the first place to the last of 60", y.move(), 59);
        due.is("the last one", y.read(59), 9);
        ShelfCart z = reading();
        for (int k = 0; k < 59; k++) {
            z.seen(5);
        }
        z.seen(2);
        due.is("from the last place of 60 to the first", z.move(), 5900);
        due.is("the first one", z.read(0), 2);
        due.is("the last one", z.read(59), 5);
    }

    private static void where() {
        due.sentence("Where a MARK would stand in the READING at hand, behind all that it is not ahead of, if this is IN ORDER: how many are ahead of it.");
        due.taken("where", 0, 9, -1, reading(2, 4)::where);
        due.is("of no MARKS", reading().where(5), 0);
        due.is("ahead of all", reading(2, 4).where(1), 0);
        due.is("like the first", reading(2, 4).where(2), 1);
        due.is("between", reading(2, 4).where(3), 1);
        due.is("like the last", reading(2, 4).where(4), 2);
        due.is("behind all", reading(2, 4).where(5), 2);
        due.is("behind all like ones", reading(2, 2, 2, 4).where(2), 3);
        ShelfCart x = reading();
        for (int k = 0; k < 60; k++) {
            x.seen(5);
        }
        due.is("behind 60", x.where(5), 60);
        due.is("ahead of 60", x.where(4), 0);
        due.is("ahead of it is the last of 60", x.between(5, 0), 5);
        due.is("none is behind 60", x.between(5, 1), -1);
    }

    private static void whereInOrder() {
        due.sentence("NONE: no READING is at hand, it is not IN ORDER, or there is no such MARK.");
        due.is("none is at hand", cart().where(0), -1);
        due.is("not IN ORDER at the beginning", reading(3, 2, 4, 5).where(9), -1);
        due.is("not IN ORDER at the end", reading(3, 4, 5, 4).where(0), -1);
        ShelfCart x = reading(3, 4, 5, 4);
        x.move();
        due.is("IN ORDER now", x.where(0), 0);
        x.way(1);
        due.is("by WAY 1, too", x.where(9), 4);
        due.is("DONE", x.done() == -1 ? 0 : x.where(0), -1);
    }

    private static void between() {
        due.sentence("The MARK that is ahead (what 0) or behind (1) of where() of a MARK. NONE if there is none, or another what, or where() would tell NONE.");
        due.taken("what", 0, 1, -1, what -> reading(2, 4).between(3, what));
        due.taken("the MARK", 2, 9, -1, mark -> reading(2, 4).between(mark, 0));
        due.taken("the MARK", 0, 3, -1, mark -> reading(2, 4).between(mark, 1));
        due.is("no such MARK", reading(2, 4).between(10, 0), -1);
        due.is("no such MARK", reading(2, 4).between(-1, 1), -1);
        due.is("of no MARKS", reading().between(3, 0), -1);
        due.is("of no MARKS", reading().between(3, 1), -1);
        due.is("not IN ORDER", reading(4, 2).between(9, 0), -1);
        due.is("none is at hand", cart().between(3, 1), -1);
        due.is("MARK 0 is ahead", reading(0, 4).between(3, 0), 0);
    }

    private static void done() {
        due.sentence("The READING at hand is DONE (and at hand no more): how many of its shelf are GONE. NONE: none is at hand.");
        ShelfCart x = cart();
        due.is("none is at hand", x.done(), -1);
        due.is("not READ", x.found(0, 0, 0), -1);
        x.list(1, 0);
        x.list(2, 0);
        x.list(3, 1);
        due.is("of no MARKS: both are GONE", doneOf(x, 0), 2);
        due.is("none is at hand", x.done(), -1);
        due.is("none is at hand", x.count(5), -1);
        due.is("one is GONE", doneOf(x, 0, 2), 1);
        due.is("none is GONE", doneOf(x, 0, 2, 1), 0);
        due.is("of another shelf", doneOf(x, 1, 2, 1), 1);
        x.list(0, 0);
        x.list(9, 0);
        due.is("the first MARK and the last", doneOf(x, 0, 2, 1), 2);
        due.is("of a shelf of which nothing is listed", doneOf(x, 2), 0);
    }

    private static void list() {
        due.sentence("The LIST has a MARK of a shelf from now on (also if it had it of another one): true. False: there is no such MARK or shelf, or there would be more than 200.");
        due.taken("the MARK", 0, 9, 0, mark -> Due.number(cart().list(mark, 0)));
        due.taken("the shelf", 0, 2, 0, shelf -> Due.number(cart().list(0, shelf)));
        ShelfCart x = cart();
        due.yes("list", x.list(9, 0));
        due.yes("of another one", x.list(9, 2));
        due.is("it has it once", x.count(3), 1);
        due.no("no such shelf", x.list(9, 3));
        due.is("it has it still", x.listed(9), 2);
    }

    /** More calls than 512 are needed for a whole LIST: the class answers them nevertheless. */
    private static void twoHundredListed() {
        due.sentence("The LIST has MARKS (at most 200), each of a shelf.");
        ShelfCart x = new ShelfCart();
        x.shelf(100, false);
        x.shelf(100, false);
        for (int k = 0; k < 200; k++) {
            Due.mark(x, "A" + k);
        }
        for (int k = 0; k < 200; k++) {
            due.yes("list " + k, x.list(k, 0));
        }
        due.is("count(3)", x.count(3), 200);
        due.no("no such MARK", x.list(200, 0));
        due.yes("one that it has, of another shelf", x.list(199, 1));
        due.is("count(3)", x.count(3), 200);
        due.yes("forget", x.forget(0));
        due.yes("and list again", x.list(0, 1));
        due.is("count(3)", x.count(3), 200);
        due.is("GONE", doneOf(x, 0), 198);
        due.is("the last one of these", x.found(0, 0, 197), 198);
        due.is("no more", x.found(0, 0, 198), -1);
    }

    private static void forget() {
        due.sentence("The LIST forgets a MARK: true; false if it had it not.");
        due.taken("forget", 0, 9, 0, mark -> {
            ShelfCart x = cart();
            x.list(0, 0);
            x.list(9, 2);
            return Due.number(x.forget(mark));
        });
        ShelfCart x = cart();
        due.no("it had it not", x.forget(5));
        x.list(5, 1);
        due.yes("forget", x.forget(5));
        due.no("it has it not now", x.forget(5));
        due.is("listed", x.listed(5), -1);
        due.is("count(3)", x.count(3), 0);
    }

    private static void listed() {
        due.sentence("The shelf of which the LIST has a MARK; NONE if it has not.");
        ShelfCart x = cart();
        x.list(0, 0);
        x.list(9, 2);
        due.taken("listed", 0, 9, -1, mark -> x.listed(mark));
        due.is("not listed", x.listed(5), -1);
        due.is("of shelf 0", x.listed(0), 0);
        due.is("of shelf 2", x.listed(9), 2);
    }

    private static void gone() {
        due.sentence("DONE, a READING is the latest one of its shelf, which is READ then.");
        due.sentence("GONE of a shelf that is READ are the MARKS that the LIST has there and the latest READING has not (WRONG or RIGHT);");
        ShelfCart x = cart();
        x.list(1, 0);
        x.list(5, 0);
        due.is("not READ", foundOf(x, 0, 0), "");
        x.run(0, false);
        due.is("at hand is not DONE", foundOf(x, 0, 0), "");
        x.done();
        due.is("READ, of no MARKS", foundOf(x, 0, 0), "1 5");
        doneOf(x, 0, 9, 5, 1);
        due.is("WRONG ones are not GONE", foundOf(x, 0, 0), "");
        doneOf(x, 0, 5);
        due.is("the latest one counts", foundOf(x, 0, 0), "1");
        x.list(1, 1);
        due.is("the LIST has it elsewhere", foundOf(x, 0, 0), "");
        due.is("shelf 1 is not READ", foundOf(x, 1, 0), "");
        doneOf(x, 1, 5);
        due.is("shelf 1 is READ", foundOf(x, 1, 0), "1");
        x.forget(1);
        due.is("the LIST has it not", foundOf(x, 1, 0), "");
    }

    private static void doubled() {
        due.sentence("DOUBLED are MARKS that it has more than once.");
        ShelfCart x = cart();
        doneOf(x, 0, 4);
        due.is("once", foundOf(x, 0, 1), "");
        doneOf(x, 0, 4, 9, 4);
        due.is("twice, apart", foundOf(x, 0, 1), "4");
        doneOf(x, 0, 9, 9, 9, 0, 0);
        due.is("twice and three times", foundOf(x, 0, 1), "0 9");
        doneOf(x, 0);
        due.is("of no MARKS", foundOf(x, 0, 1), "");
    }

    private static void isFound() {
        due.sentence("A MARK that was GONE of its shelf when a READING of that was DONE and that a later READING, of any shelf, has when it is DONE, is FOUND");
        for (int shelf = 0; shelf < 3; shelf++) {
            ShelfCart x = cart();
            x.list(3, 0);
            doneOf(x, 0, 4);
            due.is("GONE is not FOUND", foundOf(x, 0, 2), "");
            Due.reading(x, shelf, 3);
            due.is("not DONE yet", foundOf(x, 0, 2), "");
            x.done();
            due.is("FOUND on shelf " + shelf, foundOf(x, 0, 2), "3");
        }
        for (int mark : new int[] {0, 9}) {
            ShelfCart y = cart();
            y.list(mark, 0);
            doneOf(y, 0);
            doneOf(y, 0, mark);
            due.is("the first MARK, the last", foundOf(y, 0, 2), "" + mark);
        }
        ShelfCart x = cart();
        x.list(3, 0);
        doneOf(x, 1, 3);
        due.is("shelf 0 was not READ", foundOf(x, 0, 2), "");
        doneOf(x, 0, 4);
        due.is("that READING was earlier", foundOf(x, 0, 2), "");
        doneOf(x, 1, 4);
        due.is("a later one that has it not", foundOf(x, 0, 2), "");
        Due.reading(x, 1, 3);
        x.run(1, false);
        x.done();
        due.is("one that had it was never DONE", foundOf(x, 0, 2), "");
        doneOf(x, 2, 9, 3, 3);
        due.is("FOUND", foundOf(x, 0, 2), "3");
    }

    private static void isFoundNoMore() {
        due.sentence("(until the LIST forgets it, or it is GONE of its shelf again when a READING of that is DONE).");
        ShelfCart x = cart();
        x.list(3, 0);
        doneOf(x, 0);
        doneOf(x, 1, 3);
        due.is("FOUND", foundOf(x, 0, 2), "3");
        doneOf(x, 1);
        doneOf(x, 2);
        due.is("other shelves leave it", foundOf(x, 0, 2), "3");
        doneOf(x, 0, 3);
        due.is("its own one that has it leaves it", foundOf(x, 0, 2), "3");
        doneOf(x, 0);
        due.is("its own one that has it not", foundOf(x, 0, 2), "");
        doneOf(x, 0, 3);
        due.is("FOUND again", foundOf(x, 0, 2), "3");
        x.forget(3);
        due.is("forgotten", foundOf(x, 0, 2), "");
        x.list(3, 0);
        due.is("listed again", foundOf(x, 0, 2), "");
    }

    private static void found() {
        due.sentence("The k-th MARK, by number, what 0: GONE of a shelf, 1: DOUBLED there, 2: FOUND that the LIST has of it. NONE if there is none such, the shelf is not READ, there is none such, or for another what.");
        ShelfCart x = cart();
        for (int mark = 0; mark < 6; mark++) {
            x.list(mark, 0);
        }
        doneOf(x, 0);
        doneOf(x, 1, 7, 7);
        doneOf(x, 2);
        doneOf(x, 0, 5, 4, 4, 3, 3, 3);
        for (int what = 0; what < 3; what++) {
            int of = what;
            int last = what == 1 ? 1 : 2;
            due.taken("k, what " + what, 0, last, -1, k -> x.found(0, of, k));
        }
        due.taken("what", 0, 2, -1, what -> x.found(0, what, 0));
        due.taken("the shelf", 0, 0, -1, shelf -> x.found(shelf, 0, 0));
        due.is("GONE", foundOf(x, 0, 0), "0 1 2");
        due.is("DOUBLED", foundOf(x, 0, 1), "3 4");
        due.is("FOUND", foundOf(x, 0, 2), "3 4 5");
        due.is("DOUBLED on shelf 1", foundOf(x, 1, 1), "7");
        ShelfCart y = cart();
        for (int what = 0; what < 3; what++) {
            due.is("not READ", y.found(0, what, 0), -1);
        }
        doneOf(y, 0, 1, 1);
        y.list(1, 1);
        doneOf(y, 2, 1);
        due.is("shelf 1 is not READ", y.found(1, 0, 0), -1);
        due.is("shelf 0 is", y.found(0, 1, 0), 1);
        ShelfCart z = cart();
        z.list(4, 0);
        doneOf(z, 0);
        doneOf(z, 0, 4);
        due.is("FOUND", z.found(0, 2, 0), 4);
        z.list(4, 1);
        due.is("listed of a shelf that is not READ", z.found(1, 2, 0), -1);
        due.is("listed elsewhere", z.found(0, 2, 0), -1);
        doneOf(z, 1, 4);
        due.is("that is READ", z.found(1, 2, 0), 4);
        due.is("shelf 3 is none", y.found(3, 1, 0), -1);
    }
}
