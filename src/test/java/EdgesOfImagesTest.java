import java.util.LinkedHashMap;
import java.util.List;
import java.util.Map;
import java.util.function.Consumer;
import java.util.function.Supplier;

/** Promises 38 and 39, sentence by sentence: each call that changes something is taken back by an image. */
public final class EdgesOfImagesTest {
    private static final Due due = new Due("EdgesOfImagesTest");
    private static final Map<String, Consumer<ShelfCart>> CHANGES = new LinkedHashMap<>();

    static {
        CHANGES.put("nothing", x -> { });
        CHANGES.put("way(0)", x -> x.way(0));
        CHANGES.put("way(1)", x -> x.way(1));
        CHANGES.put("shelf", x -> x.shelf(700, true));
        CHANGES.put("book", x -> x.book(0, 0, 7, 0));
        CHANGES.put("stand of one that stood nowhere", x -> x.stand(5, 1, 0));
        CHANGES.put("stand of one that stood elsewhere", x -> x.stand(0, 1, 1));
        CHANGES.put("dummy, the first", x -> x.dummy(4, 1, 2));
        CHANGES.put("dummy, elsewhere", x -> x.dummy(1, 3, 3));
        CHANGES.put("off", x -> x.off(0));
        CHANGES.put("off, with a DUMMY", x -> x.off(1));
        CHANGES.put("run", x -> x.run(3, false));
        CHANGES.put("run, whole", x -> x.run(0, true));
        CHANGES.put("seen", x -> x.seen(5));
        CHANGES.put("move", ShelfCart::move);
        CHANGES.put("done", ShelfCart::done);
        CHANGES.put("a shelf READ for the first time", x -> readOn(x, 3, 1, 1));
        CHANGES.put("a shelf READ again", x -> readOn(x, 0, 2));
        CHANGES.put("all of them FOUND", x -> readOn(x, 3, 0, 1, 2, 3, 4, 5));
        CHANGES.put("list, a new one", x -> x.list(5, 3));
        CHANGES.put("list, of another shelf", x -> x.list(0, 1));
        CHANGES.put("forget", x -> x.forget(1));
        CHANGES.put("grow", x -> x.grow(0, 0, 999));
        CHANGES.put("a floor shifted", x -> shiftAndLift(x));
    }

    public static void main(String[] args) {
        fourImages();
        nothingPromisedIsLeftOut();
        takenBack("busy", Scenes::busy, "plan(", "lift()", "again(1)");
        takenBack("calm", Scenes::calm, "again(1)");
        takenBack("unread", Scenes::unread, "again(1)");
        marksTakenBack();
        whatStays();
        noPlan();
        imagesStay();
        imagesAreNotTouched();
        twoLines();
        lastOnes();
        fullOnes();
        due.end();
    }

    private static void readOn(ShelfCart x, int shelf, int... marks) {
        Due.reading(x, shelf, marks);
        x.done();
    }

    private static void shiftAndLift(ShelfCart x) {
        x.shift(0, 1, 0, 100);
        x.lift();
    }

    private static void fourImages() {
        due.sentence("as it is now: true; false for another k.");
        due.taken("image", 0, 3, 0, k -> Due.number(new ShelfCart().image(k)));
        due.taken("image, busy", 0, 3, 0, k -> Due.number(Scenes.busy().image(k)));
        due.sentence("true; false if there is none such.");
        for (int k = 0; k < 4; k++) {
            int made = k;
            due.taken("again of image " + k + " alone", k, k, 0, asked -> {
                ShelfCart x = new ShelfCart();
                x.image(made);
                return Due.number(x.again(asked));
            });
        }
        due.taken("again of all four", 0, 3, 0, asked -> {
            ShelfCart x = new ShelfCart();
            for (int k = 0; k < 4; k++) {
                x.image(k);
            }
            return Due.number(x.again(asked));
        });
    }

    private static void same(String name, Map<String, Object> before, Supplier<ShelfCart> after, String... allowed) {
        List<String> unlike = Told.unlike(before, Told.of(after));
        for (String word : allowed) {
            unlike.removeIf(line -> line.startsWith(word));
        }
        due.is(name, unlike.toString(), "[]");
    }

    /** The changes of this test are changes, each of the scene "busy". */
    private static void nothingPromisedIsLeftOut() {
        Map<String, Object> before = Told.of(Scenes::busy);
        for (String change : CHANGES.keySet()) {
            boolean same = Told.unlike(before, Told.of(() -> {
                ShelfCart x = Scenes.busy();
                CHANGES.get(change).accept(x);
                return x;
            })).isEmpty();
            due.is(change + " changes nothing", Due.number(same), Due.number(change.equals("nothing") || change.equals("way(1)")));
        }
    }

    private static void takenBack(String scene, Supplier<ShelfCart> like, String... allowed) {
        due.sentence("Image k (0 .. 3) is all that is told of MARKS, SHELVES, BOOKS, the LIST, READINGS (that at hand, too), GROWTHS and WAY,");
        Map<String, Object> before = Told.of(like);
        for (String change : CHANGES.keySet()) {
            same(scene + ": " + change + ", taken back", before, () -> {
                ShelfCart x = like.get();
                x.image(1);
                CHANGES.get(change).accept(x);
                x.again(1);
                return x;
            }, allowed);
        }
        same(scene + ": all changes, taken back", before, () -> {
            ShelfCart x = like.get();
            x.image(1);
            CHANGES.values().forEach(change -> change.accept(x));
            x.again(1);
            return x;
        }, allowed);
        same(scene + ": all changes, taken back twice", before, () -> {
            ShelfCart x = like.get();
            x.image(1);
            for (int k = 0; k < 2; k++) {
                CHANGES.values().forEach(change -> change.accept(x));
                x.again(1);
            }
            return x;
        }, allowed);
    }

    private static void marksTakenBack() {
        ShelfCart x = Scenes.calm();
        x.image(3);
        due.is("a new MARK", Due.mark(x, "Z9"), 6);
        due.is("another one", Due.mark(x, "Z8"), 7);
        x.again(3);
        due.is("count(0)", x.count(0), 6);
        due.is("no MARK 6", x.write(6), -1);
        due.is("numbered anew", Due.mark(x, "Z8"), 6);
        due.is("as another is that one", Due.mark(x, "A1"), 0);
        due.is("made anew", Due.mark(x, "Z9"), 7);
    }

    private static void whatStays() {
        due.sentence("All that is as image k has it (the tape, OUT and images stay; no PLAN is at hand then):");
        ShelfCart x = new ShelfCart();
        Due.marks(x, "A1|B22");
        x.image(0);
        due.is("OUT", x.write(1), 3);
        Due.feed(x, "C3");
        x.again(0);
        due.is("OUT stays", x.out(2), '2');
        due.is("the tape stays, and grows", x.feed(0, 0, 0, 0, 0), 40);
        due.is("the tape stays", x.mark(2), 2);
        due.is("it is made now", Due.written(x, 2), "C3");
        x.again(0);
        due.is("OUT stays, though its MARK is none now", x.out(0), 'C');
        due.is("its MARK is none now", x.write(2), -1);
        due.is("OUT stays", x.out(1), '3');
        due.is("an empty tape stays empty", x.mark(1), -3);
        Due.feed(x, "D4" + "\0".repeat(78));
        x.image(1);
        due.is("a full tape stays full at an image", x.feed(0, 0, 0, 0, 0), -1);
        x.mark(2);
        x.again(1);
        due.is("the tape is not brought back", x.mark(1), -3);
    }

    private static void noPlan() {
        ShelfCart x = Scenes.busy();
        due.is("a PLAN", x.plan(1), 4);
        x.image(1);
        due.is("an image leaves it at hand", x.plan(1), 4);
        due.no("a refused again", x.again(3));
        due.is("a refused again leaves it at hand", x.plan(1), 4);
        due.yes("again", x.again(1));
        due.is("none is at hand", x.plan(0), -1);
        due.no("none is at hand", x.lift());
        due.yes("a PLAN may be made", x.shift(0, 1, 0, 100) >= 0);
        due.yes("and carried out", x.lift());
        ShelfCart y = Scenes.busy();
        y.image(1);
        due.yes("a PLAN that an image left is carried out", y.lift());
    }

    private static void imagesStay() {
        ShelfCart x = new ShelfCart();
        for (int k = 0; k < 4; k++) {
            x.shelf(100, false);
            x.image(k);
        }
        int[] asked = {3, 0, 2, 1, 0, 3, 3, 1};
        for (int k : asked) {
            due.yes("again(" + k + ")", x.again(k));
            due.is("count(1) of image " + k, x.count(1), k + 1);
        }
        x.again(0);
        due.yes("another one in its place", x.image(3));
        due.yes("again(3)", x.again(3));
        due.is("the later one counts", x.count(1), 1);
        due.yes("again(2)", x.again(2));
        due.is("the others stay", x.count(1), 3);
    }

    private static void imagesAreNotTouched() {
        Map<String, Object> before = Told.of(Scenes::calm);
        for (int k = 0; k < 4; k++) {
            int image = k;
            same("other images and what follows leave image " + k, before, () -> {
                ShelfCart x = Scenes.calm();
                x.image(image);
                for (int other = 0; other < 4; other++) {
                    CHANGES.values().forEach(change -> change.accept(x));
                    if (other != image) {
                        x.image(other);
                    }
                }
                x.again(image);
                return x;
            }, "again(");
        }
    }

    /** Stacks that have nothing in common with those of the scene "calm". */
    private static void otherStacks(ShelfCart x) {
        x.shelf(900, true);
        x.shelf(800, false);
        Due.marks(x, "Z9.5 v7 c2|Y8|X7 .W6|A1|.5 v4|y1999");
        x.book(1, 1, 90, 0);
        x.book(0, 2, 80, 0);
        x.book(2, 0, 70, 8);
        x.book(2, 4, 60, 9);
        x.book(3, 5, 55, 0);
        x.book(1, 3, 45, 0);
        x.stand(0, 0, 9);
        x.dummy(0, 1, 8);
        x.stand(1, 1, 1);
        x.stand(4, 1, 20);
        x.grow(3, 0, 3);
        x.grow(1, 1, 4);
        x.grow(5, 5, 5);
        for (int mark = 0; mark < 6; mark++) {
            x.list(mark, mark % 2);
        }
        readOn(x, 1, 5, 2, 4, 4, 0);
        readOn(x, 0, 3, 3, 1);
        Due.reading(x, 0, 5, 4, 3, 2, 1, 0);
    }

    private static ShelfCart other() {
        ShelfCart x = new ShelfCart();
        otherStacks(x);
        return x;
    }

    /** Two lines of calls from one empty image: each comes back as if the other had never been. */
    private static void twoLines() {
        Supplier<ShelfCart> both = () -> {
            ShelfCart x = new ShelfCart();
            x.image(3);
            Scenes.calmOf(x);
            x.image(0);
            x.again(3);
            otherStacks(x);
            x.image(1);
            return x;
        };
        same("the second line", Told.of(EdgesOfImagesTest::other), both, "again(");
        same("the first line, brought back", Told.of(Scenes::calm), () -> againOf(both, 0), "again(");
        same("the second line, brought back", Told.of(EdgesOfImagesTest::other), () -> againOf(both, 0, 1), "again(");
        same("nothing, brought back", Told.of(ShelfCart::new), () -> againOf(both, 3), "again(");
    }

    private static ShelfCart againOf(Supplier<ShelfCart> like, int... images) {
        ShelfCart x = like.get();
        for (int k : images) {
            x.again(k);
        }
        return x;
    }

    /** MARKS 30 to 59 are made of other texts, and the last shelf is READ otherwise, than the image has it. */
    private static void lastOnes() {
        ShelfCart x = new ShelfCart();
        for (int k = 0; k < 16; k++) {
            x.shelf(100 + k, k == 14);
        }
        x.image(0);
        marksOf(x, "A");
        readOn(x, 15, 59, 58, 59);
        readOn(x, 7, 3, 3);
        x.image(1);
        x.again(0);
        marksOf(x, "B1.");
        readOn(x, 15, 57, 57);
        readOn(x, 7, 4, 4);
        x.again(1);
        due.is("the last MARK", Due.written(x, 59), "A60");
        due.is("another one", Due.written(x, 30), "A31");
        due.is("of the last shelf's READING", x.found(15, 1, 0), 59);
        due.is("of another one's", x.found(7, 1, 0), 3);
    }

    private static void marksOf(ShelfCart x, String front) {
        for (int k = 1; k <= 60; k++) {
            Due.mark(x, front + (k % 10 == 0 && front.endsWith(".") ? 100 + k + 1 : k));
        }
    }

    private static void fullOnes() {
        ShelfCart x = Scenes.allBooks();
        x.image(3);
        for (int book : new int[] {0, 199}) {
            x.off(book);
        }
        x.done();
        x.again(3);
        due.is("the last BOOK", x.place(14, 29), 199);
        due.is("16 shelves", x.shelf(100, false), -1);
        due.is("200 BOOKS", x.book(0, 0, 1, 0), -1);
        due.is("12 GROWTHS", x.grow(0, 0, 1), -1);
        due.is("60 MARKS read", x.seen(0), -1);
        due.is("the last one read", x.read(59), (59 * 59 + 59 / 7) % 3);
        ShelfCart y = new ShelfCart();
        y.image(0);
        for (int k = 0; k < 200; k++) {
            Due.mark(y, "A" + k);
        }
        y.image(1);
        y.again(0);
        due.is("there is room for MARKS again", Due.mark(y, "B1"), 0);
        y.again(1);
        due.is("and none for more than 200", Due.mark(y, "B1"), -2);
        due.is("all 200 came back", Due.mark(y, "A199"), 199);
    }
}
