import java.util.ArrayList;
import java.util.List;
import java.util.Random;

/** All promises: runs of calls from fixed seeds, each answer held against that of the Model. */
public final class RandomRunsTest {
    private static final int RUNS = 400;
    private static final int CALLS = 512;
    private static final int DEAREST = 300000;
    private static final String[] PIECES = {
        "A", "B", "AB", "ABC", "1", "2", "10", "0", "9999", ".1", ".5", ".15", ".05", ".123456", "y1000", "y2999", ".A1", ".A15", ".B2",
        "v1", "v2", "v10", "c1", "c2", "c999",
    };
    private static final String SIGNS = "AZ09 .yvc135a-";

    private final Random random;
    private final ShelfCart x = new ShelfCart();
    private final Model m = new Model();
    private final List<String> told = new ArrayList<>();
    private final int kindOfRun;
    private final int marksWanted;
    private final int shelvesWanted;
    private final int placesWanted;
    private String call;
    private long got;
    private long want;

    private RandomRunsTest(int seed) {
        random = new Random(seed);
        kindOfRun = seed % 4;
        marksWanted = 4 + random.nextInt(kindOfRun == 0 ? 4 : 40);
        shelvesWanted = 2 + random.nextInt(kindOfRun == 2 ? 15 : 3);
        placesWanted = kindOfRun == 3 ? 30 : 5 + random.nextInt(5);
    }

    public static void main(String[] args) {
        faultsOfAnyText();
        int wrong = 0;
        for (int seed = 0; seed < RUNS && wrong < 5; seed++) {
            wrong += new RandomRunsTest(seed).passes() ? 0 : 1;
            wrong += new RandomRunsTest(seed).passesOnFloors() ? 0 : 1;
            wrong += new RandomRunsTest(seed).passesOnLists() ? 0 : 1;
        }
        System.out.println("RandomRunsTest: " + RUNS + " runs, " + wrong + " not as due");
        if (wrong != 0) {
            System.exit(1);
        }
    }

    /** Texts that are nearly right, each on an object of its own. */
    private static void faultsOfAnyText() {
        RandomRunsTest texts = new RandomRunsTest(-1);
        for (int k = 0; k < 100000; k++) {
            String text = texts.text();
            ShelfCart x = new ShelfCart();
            Model m = new Model();
            for (int from = 0; from < text.length(); from += 20) {
                int[] f = five(text, from);
                x.feed(f[0], f[1], f[2], f[3], f[4]);
                m.feed(f[0], f[1], f[2], f[3], f[4]);
            }
            if (x.mark(text.length()) != m.mark(text.length()) || x.fault() != m.fault()) {
                System.out.println("RandomRunsTest: '" + text + "' has its FAULT at " + x.fault() + ", due is " + m.fault());
                System.exit(1);
            }
            if (x.count(0) == 1 && !Due.written(x, 0).equals(text)) {
                System.out.println("RandomRunsTest: '" + text + "' is written '" + Due.written(x, 0) + "'");
                System.exit(1);
            }
        }
    }

    private boolean passes() {
        for (int k = 0; k < CALLS; k++) {
            if (k < 40 && below(4) > 0) {
                build();
            } else {
                one();
            }
            if (!isAsDue()) {
                return false;
            }
        }
        return true;
    }

    private boolean isAsDue() {
        told.add(call + " " + got);
        if (got != want) {
            told.forEach(System.out::println);
            System.out.println("RandomRunsTest: " + call + " answered " + got + ", due is " + want);
        }
        return got == want;
    }

    /** Crowded shelves of a few WORKS, shifted again and again. */
    private boolean passesOnFloors() {
        int shelves = 2 + below(3);
        for (int k = 0; k < shelves; k++) {
            int width = 100 + below(4) * 20 + below(3);
            x.shelf(width, false);
            m.shelf(width, false);
        }
        for (int k = 0; k < 12; k++) {
            mark("A" + k / 4 + (k % 4 == 0 ? "" : " v" + k % 4));
        }
        for (int k = 0; k < 10; k++) {
            int kind = below(4) == 0 ? 3 : 0;
            int mark = below(2) == 0 ? k : below(12);
            int width = 1 + below(50);
            x.book(kind, mark, width, 0);
            m.book(kind, mark, width, 0);
        }
        for (int k = 0; k < 60; k++) {
            boolean all = isAsDueOf(this::stand) && isAsDueOf(this::shift);
            all = all && (k % 3 > 0 || isAsDueOf(() -> answer("lift()", x.lift(), m.lift())));
            for (int j = 0; all && j < shelves; j++) {
                int number = j;
                all = isAsDueOf(() -> answer("plan(" + number + ")", x.plan(number), m.plan(number)));
            }
            for (int book = 0; all && book < 10; book++) {
                int number = book;
                all = isAsDueOf(() -> answer("tell(" + number + ", 5)", x.tell(number, 5), m.tell(number, 5)));
            }
            if (!all) {
                return false;
            }
        }
        return true;
    }

    private boolean isAsDueOf(Runnable ask) {
        ask.run();
        return isAsDue();
    }

    private void mark(String text) {
        int[] f = five(text, 0);
        x.feed(f[0], f[1], f[2], f[3], f[4]);
        m.feed(f[0], f[1], f[2], f[3], f[4]);
        x.mark(text.length());
        m.mark(text.length());
    }

    /** READINGS of three shelves, with a LIST of six MARKS that changes between them. */
    private boolean passesOnLists() {
        for (int k = 0; k < 3; k++) {
            x.shelf(100, false);
            m.shelf(100, false);
        }
        for (int k = 0; k < 6; k++) {
            mark("A" + k);
        }
        for (int k = 0; k < 60; k++) {
            boolean all = isAsDueOf(this::listOrRead);
            for (int ask = 0; all && ask < 18; ask++) {
                int shelf = ask / 6;
                int what = ask / 2 % 3;
                int number = ask % 2;
                all = isAsDueOf(() -> answer("found(" + shelf + ", " + what + ", " + number + ")", x.found(shelf, what, number), m.found(shelf, what, number)));
            }
            if (!all) {
                return false;
            }
        }
        return true;
    }

    private void listOrRead() {
        int mark = below(6);
        int shelf = below(3);
        switch (below(10)) {
            case 0: answer("run(" + shelf + ", false)", x.run(shelf, false), m.run(shelf, false)); break;
            case 1: answer("forget(" + mark + ")", x.forget(mark), m.forget(mark)); break;
            case 2: case 3: answer("list(" + mark + ", " + shelf + ")", x.list(mark, shelf), m.list(mark, shelf)); break;
            case 4: case 5: answer("done()", x.done(), m.done()); break;
            case 6: images(); break;
            default:
                if (m.count(6) == -1) {
                    x.run(shelf, false);
                    m.run(shelf, false);
                }
                answer("seen(" + mark + ")", x.seen(mark), m.seen(mark));
                break;
        }
    }

    private int below(int n) {
        return random.nextInt(n);
    }

    /** A number that is mostly one of the first n, now and then just outside, seldom far away. */
    private int near(int n) {
        int dice = below(40);
        if (dice == 0) {
            return below(2) == 0 ? -1 : n;
        }
        if (dice == 1) {
            return new int[] {Integer.MIN_VALUE, Integer.MAX_VALUE, -2, n + 1, 1000, 1 << 30}[below(6)];
        }
        return n <= 0 ? 0 : below(n);
    }

    private int aMark() {
        return near(m.count(0));
    }

    private int aShelf() {
        return near(m.count(1));
    }

    private int aBook() {
        return near(m.count(2));
    }

    private void answer(String text, long fromProgram, long fromModel) {
        call = text;
        got = fromProgram;
        want = fromModel;
    }

    private void answer(String text, boolean fromProgram, boolean fromModel) {
        answer(text, fromProgram ? 1 : 0, fromModel ? 1 : 0);
    }

    private void build() {
        int dice = below(10);
        if (dice < 4 && (m.count(0) < marksWanted || below(8) == 0)) {
            feedText();
        } else if (dice < 6 && (m.count(1) < shelvesWanted || below(40) == 0)) {
            shelf();
        } else if (dice < 7) {
            book();
        } else if (dice < 8) {
            dummy();
        } else {
            stand();
        }
    }

    private void one() {
        int dice = below(100);
        if (dice < 30) {
            build();
        } else if (dice < 42) {
            marks();
        } else if (dice < 56) {
            stacks();
        } else if (dice < 76) {
            readings();
        } else if (dice < 84) {
            list();
        } else if (dice < 97 && kindOfRun == 0) {
            listAndReadings();
        } else if (dice < 97) {
            floors();
        } else {
            images();
        }
    }

    private String text() {
        StringBuilder text = new StringBuilder();
        int pieces = 1 + below(below(8) == 0 ? 9 : 4);
        for (int k = 0; k < pieces; k++) {
            text.append(k == 0 || below(3) == 0 ? "" : " ").append(PIECES[below(PIECES.length)]);
        }
        if (below(6) == 0) {
            int at = below(text.length() + 1);
            text.insert(at, SIGNS.charAt(below(SIGNS.length())));
        }
        if (below(12) == 0) {
            text.setCharAt(below(text.length()), SIGNS.charAt(below(SIGNS.length())));
        }
        return text.length() > 80 ? text.substring(0, 80) : text.toString();
    }

    private static int[] five(String text, int from) {
        int[] five = new int[5];
        for (int k = 0; k < 20; k++) {
            int b = from + k < text.length() ? text.charAt(from + k) & 255 : 0;
            five[k / 4] = five[k / 4] << 8 | b;
        }
        return five;
    }

    private void feedText() {
        String text = kindOfRun == 1 ? "A" + below(9) + (below(2) == 0 ? " v" + (1 + below(5)) : "") : text();
        for (int from = 0; from < text.length(); from += 20) {
            int[] f = five(text, from);
            if (x.feed(f[0], f[1], f[2], f[3], f[4]) != m.feed(f[0], f[1], f[2], f[3], f[4])) {
                answer("feed", 0, 1);
                return;
            }
        }
        answer("mark('" + text + "')", x.mark(text.length()), m.mark(text.length()));
    }

    private void shelf() {
        int width = below(20) == 0 ? near(100) : 100 + below(kindOfRun == 2 ? 1900 : 60);
        boolean high = below(5) == 0;
        answer("shelf(" + width + ", " + high + ")", x.shelf(width, high), m.shelf(width, high));
    }

    private void book() {
        int kind = below(10) == 0 ? near(4) : new int[] {0, 0, 0, 1, 2, 3}[below(6)];
        int mark = aMark();
        int width = below(20) == 0 ? near(201) : 1 + below(kindOfRun == 3 ? 200 : 40);
        int last = below(4) == 0 ? near(1000) : below(8);
        answer("book(" + kind + ", " + mark + ", " + width + ", " + last + ")", x.book(kind, mark, width, last), m.book(kind, mark, width, last));
    }

    private void stand() {
        int book = aBook();
        int shelf = aShelf();
        int place = near(placesWanted);
        answer("stand(" + book + ", " + shelf + ", " + place + ")", x.stand(book, shelf, place), m.stand(book, shelf, place));
    }

    private void dummy() {
        int book = aBook();
        for (int k = 0; k < 20 && (m.tell(book, 0) != 1 || m.tell(book, 4) == -1); k++) {
            book = aBook();
        }
        int shelf = aShelf();
        int place = near(placesWanted);
        answer("dummy(" + book + ", " + shelf + ", " + place + ")", x.dummy(book, shelf, place), m.dummy(book, shelf, place));
    }

    private void marks() {
        int a = aMark();
        int b = aMark();
        int k = near(8);
        int what = near(8);
        switch (below(9)) {
            case 0: answer("feed(" + a + ", .. )", x.feed(a, b, k, what, a), m.feed(a, b, k, what, a)); break;
            case 1: answer("mark(" + k + ")", x.mark(k), m.mark(k)); break;
            case 2: answer("fault()", x.fault(), m.fault()); break;
            case 3: answer("count(" + what + ")", x.count(what), m.count(what)); break;
            case 4: answer("part(" + a + ", " + k + ", " + what / 2 + ")", x.part(a, k, what / 2), m.part(a, k, what / 2)); break;
            case 5: answer("write(" + a + ")", x.write(a), m.write(a)); break;
            case 6: answer("out(" + k + ")", x.out(k), m.out(k)); break;
            case 7: answer("way(" + what / 3 + ")", x.way(what / 3), m.way(what / 3)); break;
            default: answer("sorts(" + a + ", " + b + ")", x.sorts(a, b), m.sorts(a, b)); break;
        }
    }

    private void stacks() {
        int book = aBook();
        int shelf = aShelf();
        int place = near(placesWanted);
        int what = near(8);
        int y = near(61);
        switch (below(6)) {
            case 0: dummy(); break;
            case 1: answer("off(" + book + ")", x.off(book), m.off(book)); break;
            case 2: answer("tell(" + book + ", " + what + ")", x.tell(book, what), m.tell(book, what)); break;
            case 3: answer("place(" + shelf + ", " + place + ")", x.place(shelf, place), m.place(shelf, place)); break;
            case 4: answer("room(" + shelf + ", " + y + ")", x.room(shelf, y), m.room(shelf, y)); break;
            default: answer("check(" + shelf + ")", x.check(shelf), m.check(shelf)); break;
        }
    }

    private void readings() {
        int mark = aMark();
        int k = near(m.count(5));
        int what = near(2);
        boolean yes = below(2) == 0;
        switch (below(24)) {
            case 0: case 1: runOf(); break;
            case 2: answer("read(" + k + ")", x.read(k), m.read(k)); break;
            case 3: case 4: case 5: answer("order(" + yes + ", " + k / 2 + ")", x.order(yes, k / 2), m.order(yes, k / 2)); break;
            case 6: answer("fewest()", x.fewest(), m.fewest()); break;
            case 7: case 8: case 9: answer("move()", x.move(), m.move()); break;
            case 10: case 11: answer("where(" + mark + ")", x.where(mark), m.where(mark)); break;
            case 12: case 13: answer("between(" + mark + ", " + what + ")", x.between(mark, what), m.between(mark, what)); break;
            case 14: answer("done()", x.done(), m.done()); break;
            default: answer("seen(" + mark + ")", x.seen(mark), m.seen(mark)); break;
        }
    }

    private void runOf() {
        int shelf = aShelf();
        boolean whole = below(3) == 0;
        answer("run(" + shelf + ", " + whole + ")", x.run(shelf, whole), m.run(shelf, whole));
    }

    private void list() {
        int mark = aMark();
        int shelf = aShelf();
        int what = near(3);
        int k = near(3);
        switch (below(9)) {
            case 0: case 1: answer("list(" + mark + ", " + shelf + ")", x.list(mark, shelf), m.list(mark, shelf)); break;
            case 2: answer("forget(" + mark + ")", x.forget(mark), m.forget(mark)); break;
            case 3: answer("listed(" + mark + ")", x.listed(mark), m.listed(mark)); break;
            default: answer("found(" + shelf + ", " + what + ", " + k + ")", x.found(shelf, what, k), m.found(shelf, what, k)); break;
        }
    }

    private void listAndReadings() {
        switch (below(4)) {
            case 0: answer("done()", x.done(), m.done()); break;
            case 1: runOf(); break;
            default: list(); break;
        }
    }

    private void floors() {
        int from = aMark();
        int to = aMark();
        int millimetres = below(20) == 0 ? near(1001) : 1 + below(30);
        int k = near(4);
        switch (below(12)) {
            case 0: answer("grow(" + from + ", " + to + ", " + millimetres + ")", x.grow(from, to, millimetres), m.grow(from, to, millimetres)); break;
            case 1: answer("full()", x.full(), m.full()); break;
            case 2: case 3: case 4: answer("plan(" + k + ")", x.plan(k), m.plan(k)); break;
            case 5: case 6: answer("lift()", x.lift(), m.lift()); break;
            default: shift(); break;
        }
    }

    private void shift() {
        int first = aShelf();
        int last = below(10) == 0 ? aShelf() : first + below(3);
        int least = below(3) == 0 ? near(100) : 10 * below(6);
        int greatest = below(3) == 0 ? near(101) : 50 + 10 * below(6);
        if (m.dearness(first, last) > DEAREST) {
            answer("plan(0)", x.plan(0), m.plan(0));
            return;
        }
        String text = "shift(" + first + ", " + last + ", " + least + ", " + greatest + ")";
        answer(text, x.shift(first, last, least, greatest), m.shift(first, last, least, greatest));
    }

    private void images() {
        int k = near(4);
        if (below(2) == 0) {
            answer("image(" + k + ")", x.image(k), m.image(k));
        } else {
            answer("again(" + k + ")", x.again(k), m.again(k));
        }
    }
}
