/** Objects in the middle of their work, each made with so few calls that many more may follow. */
final class Scenes {
    private Scenes() {
    }

    /**
     * Some of everything: six MARKS; shelves 0, 1, 3 COMMON, 2 HIGH; BOOKS of all KINDS, 5 nowhere; a
     * LIST, GONE and FOUND ones; a READING at hand that is not IN ORDER; GROWTHS; WAY 1; images 0
     * and 2; a PLAN; OUT; a FAULT; a tape of 40 bytes.
     */
    static ShelfCart busy() {
        ShelfCart x = new ShelfCart();
        x.image(2);
        calmStacks(x);
        x.way(1);
        Due.reading(x, 2, 4, 2, 0, 3);
        x.image(0);
        x.list(3, 1);
        x.shift(0, 1, 0, 100);
        x.write(4);
        Due.mark(x, "A ");
        Due.feed(x, "QA7.5 .B2");
        Due.feed(x, "ZZZ");
        return x;
    }

    /** The same stacks, with a READING IN ORDER at hand, no PLAN, no images, an empty tape and OUT. */
    static ShelfCart calm() {
        ShelfCart x = new ShelfCart();
        calmOf(x);
        return x;
    }

    static void calmOf(ShelfCart x) {
        calmStacks(x);
        Due.reading(x, 1, 0, 1, 3, 3, 2);
    }

    /** The same stacks without a READING at hand. */
    static ShelfCart unread() {
        ShelfCart x = new ShelfCart();
        calmStacks(x);
        return x;
    }

    private static void calmStacks(ShelfCart x) {
        x.shelf(300, false);
        x.shelf(300, false);
        x.shelf(400, true);
        x.shelf(250, false);
        Due.marks(x, "A1|A2 v3|B1.5|B1.15|C1 .D2|A1 c2");
        x.book(0, 0, 20, 0);
        x.book(1, 2, 50, 0);
        x.book(2, 1, 30, 5);
        x.book(3, 3, 10, 0);
        x.book(1, 4, 60, 0);
        x.book(0, 5, 40, 0);
        x.stand(0, 0, 0);
        x.stand(1, 2, 3);
        x.dummy(1, 0, 7);
        x.stand(2, 0, 4);
        x.stand(3, 1, 29);
        x.stand(4, 2, 0);
        x.list(0, 0);
        x.list(1, 0);
        x.list(2, 1);
        x.list(4, 0);
        Due.reading(x, 0, 0, 3, 3);
        x.done();
        Due.reading(x, 1, 1);
        x.done();
        x.grow(0, 4, 10);
        x.grow(2, 2, 7);
    }

    /** 200 MARKS (their texts are their numbers), and a tape with the text of one more, A5. */
    static ShelfCart allMarks() {
        ShelfCart x = new ShelfCart();
        x.shelf(500, false);
        for (int k = 0; k < 200; k++) {
            Due.mark(x, "" + k);
        }
        Due.standing(x, 199, 10, 0, 5);
        x.list(7, 0);
        x.write(199);
        Due.feed(x, "A5");
        return x;
    }

    /** 16 shelves (the odd ones HIGH), 200 BOOKS, 12 GROWTHS, a READING of 60 MARKS at hand. */
    static ShelfCart allBooks() {
        ShelfCart x = new ShelfCart();
        for (int k = 0; k < 16; k++) {
            x.shelf(100 + k, k % 2 == 1);
        }
        Due.marks(x, "A1|A2|A3");
        for (int k = 0; k < 200; k++) {
            x.book(0, k % 3, 1 + k, 0);
        }
        x.stand(199, 14, 29);
        x.stand(0, 0, 0);
        for (int k = 0; k < 12; k++) {
            x.grow(0, k % 3, 1 + k);
        }
        x.run(15, false);
        for (int k = 0; k < 60; k++) {
            x.seen((k * k + k / 7) % 3);
        }
        return x;
    }

    /** A tape of 80 bytes that begins with a TEXT, and nothing else. */
    static ShelfCart fullTape() {
        ShelfCart x = new ShelfCart();
        Due.feed(x, "A1.5 .B7 y1999 c3" + "\0".repeat(63));
        return x;
    }
}
