import java.util.ArrayList;
import java.util.LinkedHashMap;
import java.util.List;
import java.util.Map;
import java.util.TreeSet;
import java.util.function.Function;
import java.util.function.Supplier;

/**
 * All that can be told of an object: each question with its answer. An object answers 512 calls, so
 * the questions are put to many objects, all made alike; what a call would change is asked last, of
 * an object of its own.
 */
final class Told {
    private static final int ASKED_OF_ONE = 80;

    private final Supplier<ShelfCart> like;
    private final Map<String, Function<ShelfCart, Object>> questions = new LinkedHashMap<>();
    private final Map<String, Object> answers = new LinkedHashMap<>();
    private final int shelves;
    private final TreeSet<Integer> marks = new TreeSet<>();
    private final TreeSet<Integer> books = new TreeSet<>();

    private Told(Supplier<ShelfCart> like) {
        this.like = like;
        ShelfCart x = like.get();
        shelves = x.count(1);
        firstAndLast(marks, x.count(0));
        firstAndLast(books, x.count(2));
    }

    private static void firstAndLast(TreeSet<Integer> numbers, int made) {
        for (int k = 0; k < made; k++) {
            if (k < 7 || k > made - 3) {
                numbers.add(k);
            }
        }
    }

    static Map<String, Object> of(Supplier<ShelfCart> like) {
        Told told = new Told(like);
        told.questionsOfMarks();
        told.questionsOfBooks();
        told.questionsOfReadings();
        told.ask();
        told.tryCalls();
        return told.answers;
    }

    private void questionsOfMarks() {
        for (int k = -1; k <= 8; k++) {
            int what = k;
            questions.put("count(" + k + ")", x -> x.count(what));
        }
        questions.put("fault()", ShelfCart::fault);
        for (int k = 0; k <= 60; k++) {
            int i = k;
            questions.put("out(" + k + ")", x -> x.out(i));
        }
        for (int mark : marks) {
            for (int k = 0; k < 32; k++) {
                int part = k / 4;
                int what = k % 4;
                questions.put("part(" + mark + ", " + part + ", " + what + ")", x -> x.part(mark, part, what));
            }
            for (int other : marks) {
                questions.put("sorts(" + mark + ", " + other + ")", x -> x.sorts(mark, other));
            }
            questions.put("listed(" + mark + ")", x -> x.listed(mark));
        }
    }

    private void questionsOfBooks() {
        for (int book : books) {
            for (int k = 0; k < 8; k++) {
                int what = k;
                questions.put("tell(" + book + ", " + k + ")", x -> x.tell(book, what));
            }
        }
        for (int s = 0; s < shelves; s++) {
            int shelf = s;
            for (int k = 0; k < 30; k++) {
                int place = k;
                questions.put("place(" + s + ", " + k + ")", x -> x.place(shelf, place));
            }
            for (int y : new int[] {0, 1, 7, 60}) {
                questions.put("room(" + s + ", " + y + ")", x -> x.room(shelf, y));
            }
            questions.put("check(" + s + ")", x -> x.check(shelf));
            for (int k = 0; k < 18; k++) {
                int what = k / 6;
                int number = k % 6;
                questions.put("found(" + s + ", " + what + ", " + number + ")", x -> x.found(shelf, what, number));
            }
        }
        questions.put("full()", ShelfCart::full);
    }

    private void questionsOfReadings() {
        for (int k = 0; k <= 60; k++) {
            int place = k;
            questions.put("read(" + k + ")", x -> x.read(place));
            questions.put("order(true, " + k + ")", x -> x.order(true, place));
            questions.put("order(false, " + k + ")", x -> x.order(false, place));
        }
        questions.put("fewest()", ShelfCart::fewest);
        for (int mark : marks) {
            questions.put("where(" + mark + ")", x -> x.where(mark));
            questions.put("between(" + mark + ", 0)", x -> x.between(mark, 0));
            questions.put("between(" + mark + ", 1)", x -> x.between(mark, 1));
        }
        for (int k = 0; k <= 16; k++) {
            int number = k;
            questions.put("plan(" + k + ")", x -> x.plan(number));
        }
    }

    private void ask() {
        ShelfCart x = null;
        int asked = 0;
        for (Map.Entry<String, Function<ShelfCart, Object>> question : questions.entrySet()) {
            if (asked % ASKED_OF_ONE == 0) {
                x = like.get();
            }
            answers.put(question.getKey(), question.getValue().apply(x));
            asked++;
        }
    }

    private void tryCalls() {
        tryOne("tape: feed", x -> x.feed('Z' << 24, 0, 0, 0, 0));
        for (int n : new int[] {1, 2, 20, 21, 40, 41, 60, 61, 80, 81}) {
            tryOne("tape: mark(" + n + ")", x -> x.mark(n) + " " + x.fault() + " " + x.count(0) + " " + x.mark(1));
        }
        for (int mark : marks) {
            tryOne("write(" + mark + ")", x -> Due.written(x, mark));
        }
        tryOne("lift()", x -> x.lift() + " " + x.plan(0) + " " + whereAllStand(x));
        tryOne("move()", x -> x.move() + " " + x.move() + " " + x.move() + " " + firstRead(x));
        tryOne("done()", x -> x.done() + " " + x.count(5) + " " + foundOnAll(x));
        for (int k = 0; k < shelves; k++) {
            int shelf = k;
            tryOne("all MARKS on shelf " + k, x -> readOn(x, shelf) + " " + foundOnAll(x));
            tryOne("shift of shelf " + k + ", which may be HIGH", x -> x.shift(shelf, shelf, 0, 100));
        }
        for (int k = 0; k < 4; k++) {
            int image = k;
            tryOne("again(" + k + ")", x -> x.again(image) + " " + countsOf(x) + " " + firstRead(x) + " " + whereAllStand(x));
        }
        tryOne("what is made next", x -> x.shelf(100, false) + " " + x.book(0, 0, 1, 0) + " " + x.grow(0, 0, 1));
    }

    private void tryOne(String name, Function<ShelfCart, Object> trial) {
        answers.put(name, trial.apply(like.get()));
    }

    private String whereAllStand(ShelfCart x) {
        StringBuilder row = new StringBuilder();
        for (int book : books) {
            for (int what = 4; what < 8; what++) {
                row.append(x.tell(book, what)).append(' ');
            }
        }
        return row.toString();
    }

    private static String firstRead(ShelfCart x) {
        StringBuilder row = new StringBuilder();
        for (int k = 0; k < 10; k++) {
            row.append(x.read(k)).append(' ');
        }
        return row.toString();
    }

    private static String countsOf(ShelfCart x) {
        StringBuilder row = new StringBuilder();
        for (int what = 0; what < 8; what++) {
            row.append(x.count(what)).append(' ');
        }
        return row.toString();
    }

    private String readOn(ShelfCart x, int shelf) {
        x.run(shelf, false);
        for (int mark : marks) {
            x.seen(mark);
        }
        return "" + x.done();
    }

    private String foundOnAll(ShelfCart x) {
        StringBuilder row = new StringBuilder();
        for (int shelf = 0; shelf < shelves; shelf++) {
            for (int what = 0; what < 3; what++) {
                row.append(x.found(shelf, what, 0)).append('/').append(x.found(shelf, what, 1)).append(' ');
            }
        }
        return row.toString();
    }

    /** The questions that the one answers otherwise than the other. */
    static List<String> unlike(Map<String, Object> before, Map<String, Object> after) {
        TreeSet<String> all = new TreeSet<>(before.keySet());
        all.addAll(after.keySet());
        List<String> unlike = new ArrayList<>();
        for (String question : all) {
            if (!String.valueOf(before.get(question)).equals(String.valueOf(after.get(question)))) {
                unlike.add(question + ": " + before.get(question) + ", then " + after.get(question));
            }
        }
        return unlike;
    }
}
