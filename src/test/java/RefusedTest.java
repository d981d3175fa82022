import java.util.List;
import java.util.Map;
import java.util.function.Function;
import java.util.function.Supplier;
import java.util.function.ToLongFunction;

/** "A refused call changes nothing but the tape", call by call; nor does a call that only tells. */
public final class RefusedTest {
    private static final Due due = new Due("RefusedTest");
    private static final int MIN = Integer.MIN_VALUE;
    private static final int MAX = Integer.MAX_VALUE;

    private final Supplier<ShelfCart> scene;
    private final Map<String, Object> before;

    private RefusedTest(Supplier<ShelfCart> scene) {
        this.scene = scene;
        before = Told.of(scene);
    }

    public static void main(String[] args) {
        due.sentence("Of several refusals the first told counts; a refused call changes nothing but the tape, which is empty behind each call that takes it.");
        scenes();
        RefusedTest busy = new RefusedTest(Scenes::busy);
        busy.marks();
        busy.shelves();
        busy.books();
        busy.standing();
        busy.dummies();
        busy.readings();
        busy.list();
        busy.growing();
        busy.shifting();
        busy.images();
        busy.onlyTold();
        RefusedTest calm = new RefusedTest(Scenes::calm);
        calm.inOrder();
        calm.onlyTold();
        new RefusedTest(Scenes::unread).noReading();
        new RefusedTest(ShelfCart::new).nothingThere();
        new RefusedTest(Scenes::allMarks).allMarks();
        new RefusedTest(Scenes::allBooks).allBooks();
        new RefusedTest(Scenes::fullTape).fullTape();
        due.end();
    }

    /** The scenes have what they are to have, or the calls below would show little. */
    private static void scenes() {
        ShelfCart x = Scenes.busy();
        int[] counts = {6, 4, 6, 5, 2, 4, 2, 1};
        for (int what = 0; what < counts.length; what++) {
            due.is("busy: count(" + what + ")", x.count(what), counts[what]);
        }
        due.is("busy: fault", x.fault(), 2);
        due.is("busy: OUT", x.out(5), '2');
        due.is("busy: fewest", x.fewest(), 2);
        due.is("busy: GONE", x.found(0, 0, 1), 4);
        due.is("busy: DOUBLED", x.found(0, 1, 0), 3);
        due.is("busy: FOUND", x.found(0, 2, 0), 1);
        due.is("busy: PLAN", x.plan(1), 4);
        due.is("busy: the tape", x.mark(5), 6);
        due.yes("busy: image 2", x.again(2) && x.count(0) == 0);
        due.yes("busy: image 0", x.again(0) && x.count(3) == 4);
        due.is("calm: fewest", Scenes.calm().fewest(), 0);
        due.is("calm: READING", Scenes.calm().count(5), 5);
        due.is("unread: READING", Scenes.unread().count(5), -1);
        due.is("allMarks: MARKS", Scenes.allMarks().count(0), 200);
        due.is("allBooks: BOOKS", Scenes.allBooks().count(2), 200);
        due.is("allBooks: READING", Scenes.allBooks().count(5), 60);
        due.is("fullTape: the tape", Scenes.fullTape().mark(17), 0);
    }

    /** The call is refused with this answer; what begins with one of the allowed words may change. */
    private void refused(String name, long answer, ToLongFunction<ShelfCart> call, String... allowed) {
        due.is(name, call.applyAsLong(scene.get()), answer);
        Map<String, Object> after = Told.of(() -> {
            ShelfCart x = scene.get();
            call.applyAsLong(x);
            return x;
        });
        List<String> unlike = Told.unlike(before, after);
        unlike.removeIf(line -> begins(line, allowed));
        due.is("behind a refused " + name, unlike.toString(), "[]");
    }

    private static boolean begins(String line, String... words) {
        for (String word : words) {
            if (line.startsWith(word)) {
                return true;
            }
        }
        return false;
    }

    private void no(String name, Function<ShelfCart, Boolean> call, String... allowed) {
        refused(name, 0, x -> Due.number(call.apply(x)), allowed);
    }

    private void none(String name, ToLongFunction<ShelfCart> call) {
        refused(name, -1, call);
    }

    private void marks() {
        for (int n : new int[] {-1, 41, MIN, MAX}) {
            refused("mark(" + n + ")", -3, x -> x.mark(n), "fault()");
        }
        for (int n : new int[] {0, 4, 6, 8, 10, 20, 40}) {
            refused("mark(" + n + "), a FAULT", -1, x -> x.mark(n), "fault()", "tape");
        }
        for (int what : new int[] {-1, 8, MIN, MAX}) {
            none("count(" + what + ")", x -> x.count(what));
            none("part(0, 0, " + what + ")", x -> x.part(0, 0, what));
            none("part(0, " + what + ", 0)", x -> x.part(0, what, 0));
            none("part(" + what + ", 0, 0)", x -> x.part(what, 0, 0));
            none("write(" + what + ")", x -> x.write(what));
            refused("sorts(" + what + ", 0)", -2, x -> x.sorts(what, 0));
            refused("sorts(0, " + what + ")", -2, x -> x.sorts(0, what));
            no("way(" + what + ")", x -> x.way(what));
        }
        none("part(0, 2, 0)", x -> x.part(0, 2, 0));
        none("part(6, 0, 0)", x -> x.part(6, 0, 0));
        none("part(0, 0, 4)", x -> x.part(0, 0, 4));
        none("write(6)", x -> x.write(6));
        none("out(6)", x -> x.out(6));
        none("out(-1)", x -> x.out(-1));
        no("way(2)", x -> x.way(2));
        refused("sorts(6, 0)", -2, x -> x.sorts(6, 0));
        refused("sorts(0, 6)", -2, x -> x.sorts(0, 6));
    }

    private void shelves() {
        for (int width : new int[] {99, 2001, 0, -1, MIN, MAX}) {
            none("shelf(" + width + ", false)", x -> x.shelf(width, false));
            none("shelf(" + width + ", true)", x -> x.shelf(width, true));
        }
        for (int shelf : new int[] {-1, 4, MIN, MAX}) {
            none("place(" + shelf + ", 0)", x -> x.place(shelf, 0));
            none("place(0, " + (shelf == 4 ? 30 : shelf) + ")", x -> x.place(0, shelf == 4 ? 30 : shelf));
            refused("room(" + shelf + ", 0)", -1000000, x -> x.room(shelf, 0));
            refused("room(0, " + (shelf == 4 ? 61 : shelf) + ")", -1000000, x -> x.room(0, shelf == 4 ? 61 : shelf));
            refused("check(" + shelf + ")", -2, x -> x.check(shelf));
        }
    }

    private void books() {
        for (int odd : new int[] {-1, 6, MIN, MAX}) {
            none("book(" + odd + ", 0, 10, 0)", x -> x.book(odd, 0, 10, 0));
            none("book(0, " + odd + ", 10, 0)", x -> x.book(0, odd, 10, 0));
            none("book(0, 0, " + (odd == 6 ? 201 : odd) + ", 0)", x -> x.book(0, 0, odd == 6 ? 201 : odd, 0));
            none("book(2, 1, 10, " + (odd == 6 ? 1000 : odd) + ")", x -> x.book(2, 1, 10, odd == 6 ? 1000 : odd));
            none("tell(" + odd + ", 0)", x -> x.tell(odd, 0));
            none("tell(0, " + (odd == 6 ? 8 : odd) + ")", x -> x.tell(0, odd == 6 ? 8 : odd));
        }
        none("book(4, 0, 10, 0)", x -> x.book(4, 0, 10, 0));
        none("book(0, 0, 0, 0)", x -> x.book(0, 0, 0, 0));
        none("BOUND without a VOLUME", x -> x.book(2, 0, 10, 5));
        none("BOUND, last below its VOLUME", x -> x.book(2, 1, 10, 2));
    }

    private void standing() {
        for (int odd : new int[] {-1, MIN, MAX}) {
            no("stand(" + odd + ", 0, 1)", x -> x.stand(odd, 0, 1));
            no("stand(5, " + odd + ", 1)", x -> x.stand(5, odd, 1));
            no("stand(5, 0, " + odd + ")", x -> x.stand(5, 0, odd));
            no("off(" + odd + ")", x -> x.off(odd));
        }
        no("stand(6, 0, 1)", x -> x.stand(6, 0, 1));
        no("stand(5, 4, 1)", x -> x.stand(5, 4, 1));
        no("stand(5, 0, 30)", x -> x.stand(5, 0, 30));
        no("TALL on COMMON", x -> x.stand(1, 0, 1));
        no("PLAIN on HIGH", x -> x.stand(0, 2, 1));
        no("BOUND on HIGH", x -> x.stand(2, 2, 1));
        no("BOXED on HIGH", x -> x.stand(3, 2, 1));
        no("where a BOOK stands", x -> x.stand(5, 0, 0));
        no("where a DUMMY stands", x -> x.stand(5, 0, 7));
        no("where it stands itself", x -> x.stand(0, 0, 0));
        no("TALL where another one stands", x -> x.stand(1, 2, 0));
        no("off(6)", x -> x.off(6));
        no("off of one that stands nowhere", x -> x.off(5));
    }

    private void dummies() {
        for (int odd : new int[] {-1, MIN, MAX}) {
            no("dummy(" + odd + ", 0, 1)", x -> x.dummy(odd, 0, 1));
            no("dummy(1, " + odd + ", 1)", x -> x.dummy(1, odd, 1));
            no("dummy(1, 0, " + odd + ")", x -> x.dummy(1, 0, odd));
        }
        no("dummy(6, 0, 1)", x -> x.dummy(6, 0, 1));
        no("dummy(1, 4, 1)", x -> x.dummy(1, 4, 1));
        no("dummy(1, 0, 30)", x -> x.dummy(1, 0, 30));
        no("of a PLAIN one", x -> x.dummy(0, 0, 1));
        no("of a BOUND one", x -> x.dummy(2, 0, 1));
        no("of a BOXED one", x -> x.dummy(3, 0, 1));
        no("of one that stands nowhere", x -> x.dummy(5, 0, 1));
        no("on a HIGH shelf", x -> x.dummy(1, 2, 1));
        no("where a BOOK stands", x -> x.dummy(1, 0, 0));
        no("where another one's DUMMY stands", x -> x.dummy(4, 0, 7));
        no("where it stands itself", x -> x.dummy(1, 0, 7));
    }

    private void readings() {
        for (int odd : new int[] {-1, MIN, MAX}) {
            no("run(" + odd + ", true)", x -> x.run(odd, true));
            none("seen(" + odd + ")", x -> x.seen(odd));
            none("read(" + odd + ")", x -> x.read(odd));
            none("order(true, " + odd + ")", x -> x.order(true, odd));
            none("order(false, " + odd + ")", x -> x.order(false, odd));
            none("where(" + odd + ")", x -> x.where(odd));
            none("between(" + odd + ", 0)", x -> x.between(odd, 0));
        }
        no("run(4, false)", x -> x.run(4, false));
        no("run(4, true)", x -> x.run(4, true));
        none("seen(6)", x -> x.seen(6));
        none("read(4)", x -> x.read(4));
        none("order(true, 2)", x -> x.order(true, 2));
        none("order(false, 2)", x -> x.order(false, 2));
        none("where, not IN ORDER", x -> x.where(0));
        none("between, not IN ORDER", x -> x.between(0, 1));
    }

    private void list() {
        for (int odd : new int[] {-1, 6, MIN, MAX}) {
            no("list(" + odd + ", 0)", x -> x.list(odd, 0));
            no("list(0, " + odd + ")", x -> x.list(0, odd));
            no("forget(" + odd + ")", x -> x.forget(odd));
            none("listed(" + odd + ")", x -> x.listed(odd));
            none("found(" + odd + ", 0, 0)", x -> x.found(odd, 0, 0));
            none("found(0, " + odd + ", 0)", x -> x.found(0, odd, 0));
            none("found(0, 0, " + odd + ")", x -> x.found(0, 0, odd));
        }
        no("list(0, 4)", x -> x.list(0, 4));
        no("forget of one that it has not", x -> x.forget(5));
        none("listed of one that it has not", x -> x.listed(5));
        none("found of a shelf that is not READ", x -> x.found(3, 0, 0));
        none("found, what 3", x -> x.found(0, 3, 0));
        none("found, k as many as there are", x -> x.found(0, 0, 2));
    }

    private void growing() {
        for (int odd : new int[] {-1, 6, MIN, MAX}) {
            none("grow(" + odd + ", 0, 5)", x -> x.grow(odd, 0, 5));
            none("grow(0, " + odd + ", 5)", x -> x.grow(0, odd, 5));
            none("grow(0, 4, " + (odd == 6 ? 1001 : odd) + ")", x -> x.grow(0, 4, odd == 6 ? 1001 : odd));
        }
        none("grow(0, 4, 0)", x -> x.grow(0, 4, 0));
        none("grow, the second one ahead", x -> x.grow(4, 0, 5));
        none("grow, the second one ahead by WAY 0 alone", x -> x.grow(2, 3, 5));
    }

    private void shifting() {
        for (int odd : new int[] {-1, 4, MIN, MAX}) {
            none("shift(" + odd + ", 1, 0, 100)", x -> x.shift(odd, 1, 0, 100));
            none("shift(0, " + odd + ", 0, 100)", x -> x.shift(0, odd, 0, 100));
            none("shift(0, 1, " + (odd == 4 ? 101 : odd) + ", 100)", x -> x.shift(0, 1, odd == 4 ? 101 : odd, 100));
            none("shift(0, 1, 0, " + (odd == 4 ? 101 : odd) + ")", x -> x.shift(0, 1, 0, odd == 4 ? 101 : odd));
            none("plan(" + (odd == 4 ? 2 : odd) + ")", x -> x.plan(odd == 4 ? 2 : odd));
        }
        none("a HIGH shelf", x -> x.shift(2, 2, 0, 100));
        none("a HIGH shelf between", x -> x.shift(1, 3, 0, 100));
        none("the second one less", x -> x.shift(1, 0, 0, 100));
        none("the first part greater", x -> x.shift(0, 1, 51, 50));
        none("there is none", x -> x.shift(0, 1, 0, 0));
        no("lift, but not all is as it was", RefusedTest::liftWhileOneIsAway, "plan(", "lift()");
    }

    private static boolean liftWhileOneIsAway(ShelfCart x) {
        x.stand(0, 0, 1);
        boolean lifted = x.lift();
        x.stand(0, 0, 0);
        return lifted;
    }

    private void images() {
        for (int k : new int[] {-1, 4, MIN, MAX}) {
            no("image(" + k + ")", x -> x.image(k));
            no("again(" + k + ")", x -> x.again(k));
        }
        no("again(1), which is none", x -> x.again(1));
        no("again(3), which is none", x -> x.again(3));
    }

    private void inOrder() {
        none("move, IN ORDER", ShelfCart::move);
        none("order(false, 0)", x -> x.order(false, 0));
        none("order(true, 5)", x -> x.order(true, 5));
        none("where(6)", x -> x.where(6));
        none("between(0, 2)", x -> x.between(0, 2));
        none("between(0, -1)", x -> x.between(0, -1));
        none("between(4, 1)", x -> x.between(4, 1));
        none("plan(0)", x -> x.plan(0));
        no("lift without a PLAN", ShelfCart::lift);
        no("again(0)", x -> x.again(0));
    }

    private void noReading() {
        none("count(5)", x -> x.count(5));
        none("count(6)", x -> x.count(6));
        none("seen(0)", x -> x.seen(0));
        none("read(0)", x -> x.read(0));
        none("order(true, 0)", x -> x.order(true, 0));
        none("order(false, 0)", x -> x.order(false, 0));
        none("fewest()", ShelfCart::fewest);
        none("move()", ShelfCart::move);
        none("where(0)", x -> x.where(0));
        none("between(0, 0)", x -> x.between(0, 0));
        none("done()", ShelfCart::done);
    }

    private void nothingThere() {
        refused("mark(1)", -3, x -> x.mark(1));
        refused("mark(0)", -1, x -> x.mark(0), "fault()");
        none("book(0, 0, 10, 0)", x -> x.book(0, 0, 10, 0));
        no("stand(0, 0, 0)", x -> x.stand(0, 0, 0));
        no("dummy(0, 0, 0)", x -> x.dummy(0, 0, 0));
        no("off(0)", x -> x.off(0));
        no("run(0, true)", x -> x.run(0, true));
        no("list(0, 0)", x -> x.list(0, 0));
        none("grow(0, 0, 1)", x -> x.grow(0, 0, 1));
        none("full()", ShelfCart::full);
        none("shift(0, 0, 0, 100)", x -> x.shift(0, 0, 0, 100));
        no("lift()", ShelfCart::lift);
        no("again(0)", x -> x.again(0));
    }

    private void allMarks() {
        refused("the 201st MARK", -2, x -> x.mark(2), "tape", "fault()");
        refused("a FAULT, told ahead of that", -1, x -> x.mark(3), "tape", "fault()");
        refused("no such length, told ahead of both", -3, x -> x.mark(21));
        none("write(200)", x -> x.write(200));
        none("book of MARK 200", x -> x.book(0, 200, 10, 0));
        no("list(200, 0)", x -> x.list(200, 0));
    }

    private void allBooks() {
        none("the 17th shelf", x -> x.shelf(100, false));
        none("the 17th shelf, HIGH", x -> x.shelf(2000, true));
        none("the 201st BOOK", x -> x.book(0, 0, 10, 0));
        none("the 201st BOOK, TALL", x -> x.book(1, 2, 200, 0));
        none("the 13th GROWTH", x -> x.grow(0, 0, 1));
        none("the 61st MARK read", x -> x.seen(0));
        no("stand(200, 0, 1)", x -> x.stand(200, 0, 1));
        no("run(16, true)", x -> x.run(16, true));
    }

    private void fullTape() {
        none("feed", x -> x.feed('B' << 24, -1, -1, -1, -1));
        refused("mark(81)", -3, x -> x.mark(81));
        refused("mark(18)", -1, x -> x.mark(18), "tape", "fault()");
    }

    private void onlyTold() {
        unchanged("count", x -> x.count(5));
        unchanged("part", x -> x.part(4, 2, 1));
        unchanged("out", x -> x.out(0));
        unchanged("fault", ShelfCart::fault);
        unchanged("sorts", x -> x.sorts(2, 3));
        unchanged("tell", x -> x.tell(1, 6));
        unchanged("place", x -> x.place(0, 7));
        unchanged("room", x -> x.room(0, 60));
        unchanged("read", x -> x.read(1));
        unchanged("order", x -> x.order(true, 1));
        unchanged("fewest", ShelfCart::fewest);
        unchanged("where", x -> x.where(2));
        unchanged("between", x -> x.between(2, 0));
        unchanged("listed", x -> x.listed(0));
        unchanged("found", x -> x.found(0, 2, 0));
        unchanged("check", x -> x.check(0));
        unchanged("full", ShelfCart::full);
        unchanged("plan", x -> x.plan(1));
    }

    private void unchanged(String name, ToLongFunction<ShelfCart> call) {
        refused(name, call.applyAsLong(scene.get()), call);
    }
}
