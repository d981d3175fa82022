/** Promises 38 and 39: images, and all brought back from them. */
public final class ImagesTest {
    private static final Due due = new Due("ImagesTest");

    public static void main(String[] args) {
        refusals();
        allComesBack();
        anotherFuture();
        anotherPast();
        whatStays();
        marksOfImages();
        readingsOfImages();
        due.end();
    }

    private static void refusals() {
        ShelfCart x = new ShelfCart();
        due.no("image(4)", x.image(4));
        due.no("image(-1)", x.image(-1));
        due.no("image(max)", x.image(Integer.MAX_VALUE));
        for (int k = 0; k < 4; k++) {
            due.no("again(" + k + ")", x.again(k));
            due.yes("image(" + k + ")", x.image(k));
            due.yes("again(" + k + ")", x.again(k));
        }
        due.no("again(4)", x.again(4));
        due.no("again(-1)", x.again(-1));
    }

    /** Some of everything, told in one row of numbers. */
    private static String all(ShelfCart x) {
        StringBuilder row = new StringBuilder();
        for (int what = 0; what < 8; what++) {
            row.append(x.count(what)).append(' ');
        }
        for (int mark = 0; mark < x.count(0); mark++) {
            row.append(x.part(mark, 0, 1)).append('/').append(x.part(mark, 1, 1)).append('/').append(x.listed(mark)).append(' ');
        }
        for (int shelf = 0; shelf < x.count(1); shelf++) {
            row.append(x.room(shelf, 0)).append('/').append(x.room(shelf, 7)).append('/').append(Due.stacked(x, shelf)).append('/');
            for (int what = 0; what < 3; what++) {
                row.append(x.found(shelf, what, 0)).append('/');
            }
            row.append(x.check(shelf)).append(' ');
        }
        for (int book = 0; book < x.count(2); book++) {
            for (int what = 0; what < 8; what++) {
                row.append(x.tell(book, what)).append('/');
            }
        }
        return row.append(Due.row(x)).append(' ').append(x.full()).toString();
    }

    private static ShelfCart cart() {
        ShelfCart x = new ShelfCart();
        x.shelf(100, false);
        x.shelf(200, true);
        Due.marks(x, "A15|A5|B1 v1");
        x.book(0, 0, 20, 0);
        x.book(1, 1, 30, 0);
        x.book(2, 2, 40, 9);
        x.stand(0, 0, 3);
        x.stand(1, 1, 4);
        x.dummy(1, 0, 5);
        x.grow(1, 0, 10);
        x.list(0, 0);
        x.list(1, 0);
        Due.reading(x, 0, 1, 1);
        x.done();
        Due.reading(x, 1, 0);
        x.done();
        Due.reading(x, 0, 2, 0);
        x.way(1);
        return x;
    }

    /** Changes some of everything. */
    private static void change(ShelfCart x) {
        x.way(0);
        x.seen(1);
        x.move();
        x.done();
        x.run(1, true);
        x.shelf(300, false);
        Due.marks(x, "C1|D1");
        x.book(3, 3, 5, 0);
        x.stand(2, 0, 0);
        x.stand(3, 2, 29);
        x.off(1);
        x.grow(0, 3, 50);
        x.forget(0);
        x.list(1, 2);
        x.list(2, 0);
    }

    private static void allComesBack() {
        ShelfCart x = cart();
        String before = all(x);
        due.yes("image(2)", x.image(2));
        due.is("an image changes nothing", all(x), before);
        change(x);
        String after = all(x);
        due.yes("it is another state", !after.equals(before));
        due.yes("image(0)", x.image(0));
        due.yes("again(2)", x.again(2));
        due.is("as it was", all(x), before);
        due.yes("again(0)", x.again(0));
        due.is("as it was later", all(x), after);
        due.yes("again(2)", x.again(2));
        due.is("an image serves again", all(x), before);
        change(x);
        due.is("the same calls lead to the same", all(x), after);
    }

    private static void anotherFuture() {
        ShelfCart x = cart();
        x.image(1);
        change(x);
        x.image(1);
        String after = all(x);
        x.off(0);
        x.again(1);
        due.is("the later image counts", all(x), after);
    }

    /** Of two images that have nothing in common each comes back whole. */
    private static void anotherPast() {
        ShelfCart x = new ShelfCart();
        x.image(0);
        fillOne(x);
        x.image(1);
        String one = all(x);
        x.again(0);
        due.is("nothing is there", all(x), all(new ShelfCart()));
        fillOther(x);
        x.image(2);
        String other = all(x);
        x.again(1);
        due.is("the one", all(x), one);
        x.again(2);
        due.is("the other one", all(x), other);
    }

    private static void fillOne(ShelfCart x) {
        x.shelf(100, false);
        x.shelf(200, true);
        Due.marks(x, "A1|B2 v3");
        x.book(2, 1, 10, 5);
        x.book(1, 0, 20, 0);
        x.stand(0, 0, 1);
        x.stand(1, 1, 2);
        x.dummy(1, 0, 3);
        x.grow(0, 0, 7);
        x.list(0, 0);
        Due.reading(x, 0, 1, 1);
        x.done();
    }

    private static void fillOther(ShelfCart x) {
        x.shelf(300, true);
        x.shelf(400, false);
        Due.marks(x, "C3 v4|D4");
        x.book(1, 1, 30, 0);
        x.book(2, 0, 40, 6);
        x.stand(0, 0, 4);
        x.stand(1, 1, 5);
        x.dummy(0, 1, 6);
        x.grow(0, 1, 9);
        x.list(1, 1);
        Due.reading(x, 1, 0);
        x.done();
        Due.reading(x, 1, 1, 0);
    }

    private static void whatStays() {
        ShelfCart x = cart();
        x.write(2);
        x.image(3);
        x.write(0);
        Due.mark(x, "A ");
        Due.feed(x, "Z");
        x.shift(0, 0, 0, 100);
        due.is("a PLAN", x.plan(0), 2);
        due.yes("again(3)", x.again(3));
        due.is("no PLAN", x.plan(0), -1);
        due.no("no PLAN", x.lift());
        due.is("OUT stays", x.out(0), 'A');
        due.is("OUT stays", x.out(2), '5');
        due.is("OUT stays", x.out(3), -1);
        due.is("the latest mark() stays", x.fault(), 2);
        due.is("the tape stays", x.mark(1), 3);
        due.is("the tape stays", Due.written(x, 3), "Z");
    }

    private static void marksOfImages() {
        ShelfCart x = new ShelfCart();
        x.image(0);
        Due.marks(x, "A|B");
        x.image(1);
        x.again(0);
        due.is("no MARKS", x.count(0), 0);
        due.is("no MARKS", x.write(0), -1);
        due.is("another one", Due.mark(x, "C1"), 0);
        x.again(1);
        due.is("mark A", Due.mark(x, "A"), 0);
        due.is("mark B", Due.mark(x, "B"), 1);
        due.is("mark C1", Due.mark(x, "C1"), 2);
        due.is("written", Due.written(x, 0), "A");
    }

    private static void readingsOfImages() {
        ShelfCart x = new ShelfCart();
        x.shelf(100, false);
        Due.marks(x, "A|B");
        x.image(0);
        Due.reading(x, 0, 1, 0);
        x.image(1);
        x.list(0, 0);
        due.is("none is GONE", x.done(), 0);
        x.again(0);
        due.is("none at hand", x.count(6), -1);
        due.is("not READ", x.found(0, 0, 0), -1);
        x.again(1);
        due.is("that at hand", Due.row(x), "1 0");
        due.is("the LIST", x.count(3), 0);
        due.is("a MOVE", x.move(), 100);
        x.again(1);
        due.is("it is made again", x.move(), 100);
    }
}
