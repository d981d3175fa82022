import java.io.IOException;
import java.nio.file.Files;
import java.nio.file.Path;
import java.util.function.IntToLongFunction;

/** Counts, for one test, the answers that are not the ones that are due. */
final class Due {
    private static final Path DOCUMENT = Path.of("../shared/DOC.md");

    private final String test;
    private String document;
    private int asked;
    private int wrong;

    Due(String test) {
        this.test = test;
    }

    void is(String call, long got, long want) {
        asked++;
        if (got != want) {
            wrong++;
            System.out.println(test + ": " + call + " answered " + got + ", due is " + want);
        }
    }

    void is(String call, String got, String want) {
        asked++;
        if (!got.equals(want)) {
            wrong++;
            System.out.println(test + ": " + call + " answered '" + got + "', due is '" + want + "'");
        }
    }

    void yes(String call, boolean got) {
        is(call, got ? 1 : 0, 1);
    }

    void no(String call, boolean got) {
        is(call, got ? 1 : 0, 0);
    }

    /** What follows tests this sentence, which the document, where it is at hand, must have as it is told. */
    void sentence(String words) {
        if (document == null) {
            document = documentText();
        }
        yes("the document has '" + words + "'", document.isEmpty() || document.contains(words));
    }

    /** The document with single blanks, without the signs that only set its text; empty if it is not there. */
    static String documentText() {
        try {
            return Files.isReadable(DOCUMENT) ? plain(Files.readString(DOCUMENT)) : "";
        } catch (IOException unreadable) {
            return "";
        }
    }

    static String plain(String text) {
        return text.replaceAll("[\\s`]+", " ");
    }

    /** A call is taken from one number to another, and refused with one answer below, above and far away. */
    void taken(String call, int least, int greatest, long refusal, IntToLongFunction ask) {
        no(call + " takes " + least, ask.applyAsLong(least) == refusal);
        no(call + " takes " + greatest, ask.applyAsLong(greatest) == refusal);
        is(call + " below " + least, ask.applyAsLong(least - 1), refusal);
        is(call + " above " + greatest, ask.applyAsLong(greatest + 1), refusal);
        is(call + " of the least int", ask.applyAsLong(Integer.MIN_VALUE), refusal);
        is(call + " of the greatest int", ask.applyAsLong(Integer.MAX_VALUE), refusal);
    }

    static long number(boolean yes) {
        return yes ? 1 : 0;
    }

    void end() {
        System.out.println(test + ": " + asked + " answers, " + wrong + " not as due");
        if (wrong != 0) {
            System.exit(1);
        }
    }

    /** Feeds a text, filled up with zeros to twenties of bytes. */
    static void feed(ShelfCart x, String text) {
        for (int from = 0; from < text.length(); from += 20) {
            x.feed(four(text, from), four(text, from + 4), four(text, from + 8), four(text, from + 12), four(text, from + 16));
        }
    }

    private static int four(String text, int from) {
        int number = 0;
        for (int k = from; k < from + 4; k++) {
            number = number << 8 | (k < text.length() ? text.charAt(k) & 255 : 0);
        }
        return number;
    }

    static int mark(ShelfCart x, String text) {
        feed(x, text);
        return x.mark(text.length());
    }

    /** Makes MARKS of texts, which are told with bars between them; they get the numbers from 0 on. */
    static void marks(ShelfCart x, String texts) {
        for (String text : texts.split("\\|")) {
            mark(x, text);
        }
    }

    static String written(ShelfCart x, int mark) {
        StringBuilder text = new StringBuilder();
        int length = x.write(mark);
        for (int i = 0; i < length; i++) {
            text.append((char) x.out(i));
        }
        return text.toString();
    }

    /** A READING of a shelf, of these MARKS. */
    static void reading(ShelfCart x, int shelf, int... marks) {
        x.run(shelf, false);
        for (int mark : marks) {
            x.seen(mark);
        }
    }

    /** The MARKS of the READING at hand, with blanks between them. */
    static String row(ShelfCart x) {
        StringBuilder row = new StringBuilder();
        for (int k = 0; k < x.count(5); k++) {
            row.append(k == 0 ? "" : " ").append(x.read(k));
        }
        return row.toString();
    }

    /** A PLAIN BOOK that stands at a PLACE. */
    static int standing(ShelfCart x, int mark, int width, int shelf, int place) {
        int book = x.book(0, mark, width, 0);
        x.stand(book, shelf, place);
        return book;
    }

    /** What stands on a shelf: each thing's PLACE and number. */
    static String stacked(ShelfCart x, int shelf) {
        StringBuilder row = new StringBuilder();
        for (int place = 0; place < 30; place++) {
            if (x.place(shelf, place) != ShelfCart.NONE) {
                row.append(row.length() == 0 ? "" : " ").append(place).append(':').append(x.place(shelf, place));
            }
        }
        return row.toString();
    }
}
