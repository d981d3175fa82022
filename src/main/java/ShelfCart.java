/**
 * A library's stacks, read along the shelves by a cart. The numbered promises of the document say
 * what each call answers; the words in capitals are the document's own.
 */
public final class ShelfCart {
    public static final int NONE = -1;

    private static final int TOO_MANY_MARKS = -2;
    private static final int NO_SUCH_MARK = -2;
    private static final int NO_SUCH_SHELF = -2;
    private static final int NO_SUCH_LENGTH = -3;
    private static final int NO_SUCH_ROOM = -1000000;

    private static final int MAX_TAPE = 80;
    private static final int MAX_TEXT = 60;
    private static final int MAX_MARKS = 200;
    private static final int MAX_PARTS = 8;
    private static final int MAX_SHELVES = 16;
    private static final int MAX_PLACES = 30;
    private static final int MAX_BOOKS = 200;
    private static final int MAX_READ = 60;
    private static final int MAX_GROWTHS = 12;
    private static final int MAX_YEARS = 60;
    private static final int MAX_IMAGES = 4;

    private static final int LETTERS = 0;
    private static final int WHOLE = 1;
    private static final int DECIMAL = 2;
    private static final int YEAR = 3;
    private static final int WORK = 4;
    private static final int VOLUME = 5;
    private static final int COPY = 6;

    private static final int PLAIN = 0;
    private static final int TALL = 1;
    private static final int BOUND = 2;
    private static final int BOXED = 3;

    private static final int BOX_WIDTH = 10;
    private static final int DUMMY_WIDTH = 5;
    private static final int DUMMY_CODE = 1000;
    private static final int LAST_VOLUME = 999;

    private static final int BLANK = ' ';
    private static final int[] TENS = {1, 10, 100, 1000, 10000, 100000, 1000000};

    private final TextReader textReader;
    private final ByteRow written;
    private int latestFault;
    private final State now;
    private final State[] images;
    private final Sequence sequence;
    private final Shifter shifter;

    public ShelfCart() {
        textReader = new TextReader();
        written = new ByteRow(MAX_TEXT);
        latestFault = NONE;
        now = new State();
        images = new State[MAX_IMAGES];
        sequence = new Sequence();
        shifter = new Shifter();
    }

    // ---- marks

    public int feed(int a, int b, int c, int d, int e) {
        ByteRow tape = textReader.tape;
        if (tape.length + 20 > MAX_TAPE) {
            return NONE;
        }
        tape.addNumber(a);
        tape.addNumber(b);
        tape.addNumber(c);
        tape.addNumber(d);
        tape.addNumber(e);
        return tape.length;
    }

    public int mark(int n) {
        latestFault = NONE;
        if (n < 0 || n > textReader.tape.length) {
            return NO_SUCH_LENGTH;
        }
        latestFault = withinText(textReader.faultOf(n), n);
        textReader.tape.length = 0;
        if (latestFault != NONE) {
            return NONE;
        }
        int known = now.marks.numberOf(textReader.parts, textReader.length);
        if (known != NONE) {
            return known;
        }
        int made = now.marks.make(textReader.parts, textReader.length);
        return made == NONE ? TOO_MANY_MARKS : made;
    }

    private static int withinText(int place, int n) {
        return n > MAX_TEXT && (place == NONE || place > MAX_TEXT) ? MAX_TEXT : place;
    }

    public int fault() {
        return latestFault;
    }

    public int count(int what) {
        switch (what) {
            case 0: return now.marks.made;
            case 1: return now.stacks.shelvesMade;
            case 2: return now.stacks.booksMade;
            case 3: return now.catalogue.entries;
            case 4: return now.growths.made;
            case 5: return now.atHand.isThere() ? now.atHand.length : NONE;
            case 6: return now.atHand.shelfRead;
            case 7: return now.sortWay;
            default: return NONE;
        }
    }

    public int part(int mark, int k, int what) {
        if (!now.marks.has(mark) || k < 0 || k >= now.marks.lengthOf(mark)) {
            return NONE;
        }
        long found = now.marks.partOf(mark, k);
        switch (what) {
            case 0: return Part.kindOf(found);
            case 1: return Part.valueOf(found);
            case 2: return Part.digitsOf(found);
            case 3: return Part.placesOf(found);
            default: return NONE;
        }
    }

    public int write(int mark) {
        if (!now.marks.has(mark)) {
            return NONE;
        }
        written.length = 0;
        now.marks.spell(mark, written);
        return written.length;
    }

    public int out(int i) {
        return written.byteAt(i);
    }

    public boolean way(int way) {
        if (way != 0 && way != 1) {
            return false;
        }
        now.sortWay = way;
        return true;
    }

    public int sorts(int a, int b) {
        if (!now.marks.has(a) || !now.marks.has(b)) {
            return NO_SUCH_MARK;
        }
        return now.marks.compare(a, b, now.sortWay);
    }

    // ---- shelves, books

    public int shelf(int width, boolean high) {
        if (width < 100 || width > 2000) {
            return NONE;
        }
        return now.stacks.makeShelf(width, high);
    }

    public int book(int kind, int mark, int width, int last) {
        if (!now.marks.has(mark) || kind < PLAIN || kind > BOXED || width < 1 || width > 200) {
            return NONE;
        }
        if (kind != BOUND) {
            return now.stacks.makeBook(kind, mark, width, 0);
        }
        int volume = now.marks.volumeOf(mark);
        if (volume == NONE || last < volume || last > LAST_VOLUME) {
            return NONE;
        }
        return now.stacks.makeBook(kind, mark, width, last);
    }

    public boolean stand(int book, int shelf, int place) {
        Stacks stacks = now.stacks;
        if (!stacks.hasBook(book) || !stacks.isFree(shelf, place)) {
            return false;
        }
        if (stacks.isHigh(shelf) != (stacks.kinds[book] == TALL)) {
            return false;
        }
        stacks.putThing(book, shelf, place);
        return true;
    }

    public boolean dummy(int book, int shelf, int place) {
        Stacks stacks = now.stacks;
        if (!stacks.hasBook(book) || !stacks.isFree(shelf, place) || stacks.isHigh(shelf)) {
            return false;
        }
        if (stacks.kinds[book] != TALL || stacks.bookShelves[book] == NONE) {
            return false;
        }
        stacks.putThing(DUMMY_CODE + book, shelf, place);
        return true;
    }

    public boolean off(int book) {
        Stacks stacks = now.stacks;
        if (!stacks.hasBook(book) || stacks.bookShelves[book] == NONE) {
            return false;
        }
        stacks.takeThing(book);
        stacks.takeThing(DUMMY_CODE + book);
        return true;
    }

    public int tell(int book, int what) {
        Stacks stacks = now.stacks;
        if (!stacks.hasBook(book)) {
            return NONE;
        }
        switch (what) {
            case 0: return stacks.kinds[book];
            case 1: return stacks.bookMarks[book];
            case 2: return stacks.bookWidths[book];
            case 3: return stacks.lastVolumes[book];
            case 4: return stacks.bookShelves[book];
            case 5: return stacks.bookPlaces[book];
            case 6: return stacks.dummyShelves[book];
            case 7: return stacks.dummyPlaces[book];
            default: return NONE;
        }
    }

    public int place(int shelf, int place) {
        return now.stacks.thingAt(shelf, place);
    }

    public int room(int shelf, int y) {
        if (!now.stacks.hasShelf(shelf) || y < 0 || y > MAX_YEARS) {
            return NO_SUCH_ROOM;
        }
        now.growths.countBooks(now.marks, now.stacks);
        return now.stacks.roomNow(shelf) - now.growths.lossOf(shelf, y);
    }

    // ---- readings

    public boolean run(int shelf, boolean whole) {
        if (!now.stacks.hasShelf(shelf)) {
            return false;
        }
        now.atHand.begin(shelf);
        for (int place = 0; whole && place < MAX_PLACES; place++) {
            int thing = now.stacks.thingAt(shelf, place);
            if (thing != NONE) {
                now.atHand.add(now.stacks.markOf(thing));
            }
        }
        return true;
    }

    public int seen(int mark) {
        if (!now.atHand.isThere() || !now.marks.has(mark) || !now.atHand.add(mark)) {
            return NONE;
        }
        return now.atHand.length;
    }

    public int read(int k) {
        return now.atHand.isThere() ? now.atHand.markAt(k) : NONE;
    }

    public int order(boolean right, int k) {
        if (!now.atHand.isThere()) {
            return NONE;
        }
        sequence.study(now);
        return sequence.placeOf(right, k);
    }

    public int fewest() {
        if (!now.atHand.isThere()) {
            return NONE;
        }
        sequence.study(now);
        return now.atHand.length - sequence.rightCount;
    }

    public int move() {
        if (!now.atHand.isThere()) {
            return NONE;
        }
        sequence.study(now);
        int old = sequence.placeOf(false, 0);
        if (old == NONE) {
            return NONE;
        }
        int fresh = sequence.newPlaceOf(old, now);
        now.atHand.shiftOne(old, fresh);
        return 100 * old + fresh;
    }

    public int where(int mark) {
        if (!now.atHand.isThere() || !now.marks.has(mark) || !isInOrder(now.atHand)) {
            return NONE;
        }
        int ahead = 0;
        for (int k = 0; k < now.atHand.length; k++) {
            if (now.compare(now.atHand.markAt(k), mark) <= 0) {
                ahead++;
            }
        }
        return ahead;
    }

    private boolean isInOrder(Reading reading) {
        for (int k = 1; k < reading.length; k++) {
            if (now.compare(reading.markAt(k - 1), reading.markAt(k)) > 0) {
                return false;
            }
        }
        return true;
    }

    public int between(int mark, int what) {
        int ahead = where(mark);
        if (ahead == NONE || what < 0 || what > 1) {
            return NONE;
        }
        return now.atHand.markAt(what == 0 ? ahead - 1 : ahead);
    }

    public int done() {
        if (!now.atHand.isThere()) {
            return NONE;
        }
        int shelf = now.atHand.shelfRead;
        now.catalogue.keepReading(now.atHand);
        now.atHand.end();
        return now.catalogue.countGone(shelf);
    }

    // ---- the list

    public boolean list(int mark, int shelf) {
        if (!now.marks.has(mark) || !now.stacks.hasShelf(shelf)) {
            return false;
        }
        now.catalogue.enter(mark, shelf);
        return true;
    }

    public boolean forget(int mark) {
        return now.marks.has(mark) && now.catalogue.strike(mark);
    }

    public int listed(int mark) {
        return now.marks.has(mark) ? now.catalogue.shelfOf(mark) : NONE;
    }

    public int found(int shelf, int what, int k) {
        if (!now.stacks.hasShelf(shelf) || !now.catalogue.isRead(shelf) || k < 0) {
            return NONE;
        }
        int left = k;
        for (int mark = 0; mark < now.marks.made; mark++) {
            if (now.catalogue.isSuch(shelf, what, mark)) {
                if (left == 0) {
                    return mark;
                }
                left--;
            }
        }
        return NONE;
    }

    public int check(int shelf) {
        if (!now.stacks.hasShelf(shelf)) {
            return NO_SUCH_SHELF;
        }
        int ahead = NONE;
        for (int place = 0; place < MAX_PLACES; place++) {
            int thing = now.stacks.thingAt(shelf, place);
            if (thing != NONE) {
                int mark = now.stacks.markOf(thing);
                if (ahead != NONE && now.compare(mark, ahead) < 0) {
                    return place;
                }
                ahead = mark;
            }
        }
        return NONE;
    }

    // ---- growing, shifting

    public int grow(int from, int to, int millimetres) {
        if (!now.marks.has(from) || !now.marks.has(to) || millimetres < 1 || millimetres > 1000) {
            return NONE;
        }
        if (now.marks.compare(to, from, 0) < 0) {
            return NONE;
        }
        return now.growths.make(from, to, millimetres);
    }

    public int full() {
        now.growths.countBooks(now.marks, now.stacks);
        int first = NONE;
        for (int shelf = 0; shelf < now.stacks.shelvesMade; shelf++) {
            int year = firstFullYear(shelf);
            if (year != NONE && (first == NONE || 100 * year + shelf < first)) {
                first = 100 * year + shelf;
            }
        }
        return first;
    }

    private int firstFullYear(int shelf) {
        int room = now.stacks.roomNow(shelf);
        for (int year = 0; year <= MAX_YEARS; year++) {
            if (room < now.growths.lossOf(shelf, year)) {
                return year;
            }
        }
        return NONE;
    }

    public int shift(int first, int last, int least, int greatest) {
        if (!isFloor(first, last) || least < 0 || greatest > 100 || least > greatest) {
            return NONE;
        }
        return shifter.makePlan(now, first, last, least, greatest);
    }

    private boolean isFloor(int first, int last) {
        if (!now.stacks.hasShelf(first) || !now.stacks.hasShelf(last) || last < first) {
            return false;
        }
        for (int shelf = first; shelf <= last; shelf++) {
            if (now.stacks.isHigh(shelf)) {
                return false;
            }
        }
        return true;
    }

    public int plan(int k) {
        return shifter.endOf(k);
    }

    public boolean lift() {
        return shifter.carryOut(now.stacks);
    }

    // ---- images

    public boolean image(int k) {
        if (k < 0 || k >= MAX_IMAGES) {
            return false;
        }
        if (images[k] == null) {
            images[k] = new State();
        }
        images[k].become(now);
        return true;
    }

    public boolean again(int k) {
        if (k < 0 || k >= MAX_IMAGES || images[k] == null) {
            return false;
        }
        now.become(images[k]);
        shifter.dropPlan();
        return true;
    }

    /** Bytes, one behind the other, up to as many as it was made for. */
    private static final class ByteRow {
        final int[] bytes;
        int length;

        ByteRow(int most) {
            bytes = new int[Math.max(0, most)];
        }

        void add(int b) {
            if (length >= 0 && length < bytes.length) {
                bytes[length] = b & 255;
                length++;
            }
        }

        void addNumber(int number) {
            add(number >>> 24);
            add(number >>> 16);
            add(number >>> 8);
            add(number);
        }

        void addDigits(int number, int places) {
            for (int k = Math.min(places, TENS.length) - 1; k >= 0; k--) {
                add('0' + number / TENS[k] % 10);
            }
        }

        int byteAt(int i) {
            return i >= 0 && i < length ? bytes[i] : NONE;
        }
    }

    /** A PART held in one number, so that like PARTS are like numbers and a MARK is a row of them. */
    private static final class Part {
        static long of(int kind, int value, int digits, int places) {
            return ((long) kind << 40) | ((long) value << 24) | ((long) digits << 4) | places;
        }

        static int kindOf(long part) {
            return (int) (part >> 40);
        }

        static int valueOf(long part) {
            return (int) (part >> 24) & 0xFFFF;
        }

        static int digitsOf(long part) {
            return (int) (part >> 4) & 0xFFFFF;
        }

        static int placesOf(long part) {
            return (int) part & 15;
        }

        static int compare(long a, long b, int way) {
            if (kindOf(a) != kindOf(b)) {
                return Integer.compare(kindOf(a), kindOf(b));
            }
            if (kindOf(a) == LETTERS) {
                return Integer.compare(wordKey(valueOf(a)), wordKey(valueOf(b)));
            }
            if (valueOf(a) != valueOf(b)) {
                return Integer.compare(valueOf(a), valueOf(b));
            }
            if (way == 0) {
                return Integer.compare(digitKey(digitsOf(a), placesOf(a)), digitKey(digitsOf(b), placesOf(b)));
            }
            if (placesOf(a) != placesOf(b)) {
                return Integer.compare(placesOf(a), placesOf(b));
            }
            return Integer.compare(digitsOf(a), digitsOf(b));
        }

        // Blanks behind a short word make all words equally long, so that their numbers sort as words do.
        private static int wordKey(int letters) {
            if (letters < 27) {
                return letters * 27 * 27;
            }
            return letters < 27 * 27 ? letters * 27 : letters;
        }

        // Digits never end with 0, so zeros behind them keep unlike rows unlike and the shorter one ahead.
        private static int digitKey(int digits, int places) {
            int missing = TENS.length - 1 - places;
            return missing >= 0 && missing < TENS.length ? digits * TENS[missing] : 0;
        }

        static void spell(long part, ByteRow to) {
            int value = valueOf(part);
            switch (kindOf(part)) {
                case LETTERS: spellLetters(value, to); break;
                case WHOLE: to.addDigits(value, lengthOfNumber(value)); break;
                case DECIMAL: spellDigits('.', NONE, part, to); break;
                case YEAR: spellNumber('y', value, to); break;
                case WORK: spellDigits('.', 'A' + value - 1, part, to); break;
                case VOLUME: spellNumber('v', value, to); break;
                default: spellNumber('c', value, to); break;
            }
        }

        private static void spellLetters(int value, ByteRow to) {
            if (value >= 27 * 27) {
                to.add('A' + value / (27 * 27) - 1);
            }
            if (value >= 27) {
                to.add('A' + value / 27 % 27 - 1);
            }
            to.add('A' + value % 27 - 1);
        }

        private static void spellDigits(int sign, int letter, long part, ByteRow to) {
            to.add(sign);
            if (letter != NONE) {
                to.add(letter);
            }
            to.addDigits(digitsOf(part), placesOf(part));
        }

        private static void spellNumber(int sign, int value, ByteRow to) {
            to.add(sign);
            to.addDigits(value, lengthOfNumber(value));
        }

        private static int lengthOfNumber(int value) {
            int length = 1;
            while (length < TENS.length && value >= TENS[length]) {
                length++;
            }
            return length;
        }
    }

    /** Holds the tape and reads a TEXT off it, PART by PART; where it can't go on is the FAULT. */
    private static final class TextReader {
        final ByteRow tape = new ByteRow(MAX_TAPE);
        final long[] parts = new long[MAX_PARTS];
        int length;
        private int at;
        private int end;
        private int digits;
        private int places;

        int faultOf(int n) {
            at = 0;
            end = n;
            length = 0;
            int ahead = NONE;
            for (int k = 0; k < MAX_PARTS; k++) {
                boolean joined = false;
                if (k > 0) {
                    if (at >= end) {
                        return NONE;
                    }
                    joined = isJoined(ahead);
                    if (!joined && !takeBlank(ahead)) {
                        return at;
                    }
                }
                if (!takePart(ahead, joined)) {
                    return at;
                }
                ahead = Part.kindOf(parts[k]);
            }
            return at < end ? at : NONE;
        }

        private int next() {
            return at >= 0 && at < end && at < tape.bytes.length ? tape.bytes[at] : NONE;
        }

        private static boolean isLetter(int b) {
            return b >= 'A' && b <= 'Z';
        }

        private static boolean isDigit(int b) {
            return b >= '0' && b <= '9';
        }

        private boolean isJoined(int ahead) {
            return ahead == LETTERS && isDigit(next()) || ahead == WHOLE && next() == '.';
        }

        private boolean takeBlank(int ahead) {
            if (next() != BLANK || ahead == COPY) {
                return false;
            }
            at++;
            return true;
        }

        private boolean takePart(int ahead, boolean joined) {
            int b = next();
            if (ahead == VOLUME && b != 'c') {
                return false;
            }
            if (isLetter(b)) {
                return takeLetters();
            }
            if (isDigit(b)) {
                return (ahead != LETTERS || joined) && takeWhole();
            }
            switch (b) {
                case '.': return takePoint(ahead, joined);
                case 'y': return takeYear();
                case 'v': return takeNumber(VOLUME);
                case 'c': return takeNumber(COPY);
                default: return false;
            }
        }

        private void keep(int kind, int value, int digitsOfPart, int placesOfPart) {
            if (length < MAX_PARTS) {
                parts[length] = Part.of(kind, value, digitsOfPart, placesOfPart);
                length++;
            }
        }

        private boolean takeLetters() {
            int value = 0;
            for (int k = 0; k < 3 && isLetter(next()); k++) {
                value = value * 27 + next() - 'A' + 1;
                at++;
            }
            keep(LETTERS, value, 0, 0);
            return true;
        }

        private boolean takeWhole() {
            takeDigits(next() == '0' ? 1 : 4);
            keep(WHOLE, digits, 0, 0);
            return true;
        }

        // What a point begins is told by the byte behind it, as far as the PART ahead leaves a choice.
        private boolean takePoint(int ahead, boolean joined) {
            at++;
            if (isLetter(next()) && !joined) {
                int letter = next() - 'A' + 1;
                at++;
                return takeFraction(WORK, letter, 5);
            }
            boolean mayBeDecimal = joined || ahead != WHOLE;
            return mayBeDecimal && takeFraction(DECIMAL, 0, 6);
        }

        private boolean takeFraction(int kind, int value, int most) {
            takeDigits(most);
            if (places == 0 || digits % 10 == 0) {
                return false;
            }
            keep(kind, value, digits, places);
            return true;
        }

        private boolean takeYear() {
            at++;
            if (next() != '1' && next() != '2') {
                return false;
            }
            takeDigits(4);
            if (places < 4) {
                return false;
            }
            keep(YEAR, digits, 0, 0);
            return true;
        }

        private boolean takeNumber(int kind) {
            at++;
            if (!isDigit(next()) || next() == '0') {
                return false;
            }
            takeDigits(3);
            keep(kind, digits, 0, 0);
            return true;
        }

        private void takeDigits(int most) {
            digits = 0;
            places = 0;
            while (places < most && isDigit(next())) {
                digits = digits * 10 + next() - '0';
                places++;
                at++;
            }
        }
    }

    /** The MARKS, each a row of PARTS. */
    private static final class Marks {
        int made;
        private final int[] lengths = new int[MAX_MARKS];
        private final long[] parts = new long[MAX_MARKS * MAX_PARTS];

        boolean has(int mark) {
            return mark >= 0 && mark < made;
        }

        int lengthOf(int mark) {
            return has(mark) ? lengths[mark] : 0;
        }

        long partOf(int mark, int k) {
            return has(mark) && k >= 0 && k < MAX_PARTS ? parts[mark * MAX_PARTS + k] : 0;
        }

        int numberOf(long[] row, int length) {
            for (int mark = 0; mark < made; mark++) {
                if (lengthOf(mark) == length && beginsWith(mark, row, length)) {
                    return mark;
                }
            }
            return NONE;
        }

        private boolean beginsWith(int mark, long[] row, int length) {
            for (int k = 0; k < length && k < row.length; k++) {
                if (partOf(mark, k) != row[k]) {
                    return false;
                }
            }
            return true;
        }

        int make(long[] row, int length) {
            if (made >= MAX_MARKS) {
                return NONE;
            }
            for (int k = 0; k < length && k < MAX_PARTS && k < row.length; k++) {
                parts[made * MAX_PARTS + k] = row[k];
            }
            lengths[made] = length;
            made++;
            return made - 1;
        }

        int compare(int a, int b, int way) {
            int both = Math.min(lengthOf(a), lengthOf(b));
            for (int k = 0; k < both; k++) {
                int told = Part.compare(partOf(a, k), partOf(b, k), way);
                if (told != 0) {
                    return told;
                }
            }
            return Integer.compare(lengthOf(a), lengthOf(b));
        }

        int volumeOf(int mark) {
            for (int k = 0; k < lengthOf(mark); k++) {
                if (Part.kindOf(partOf(mark, k)) == VOLUME) {
                    return Part.valueOf(partOf(mark, k));
                }
            }
            return NONE;
        }

        boolean areOfOneWork(int a, int b) {
            int length = lengthOfWork(a);
            if (length != lengthOfWork(b)) {
                return false;
            }
            for (int k = 0; k < length; k++) {
                if (partOf(a, k) != partOf(b, k)) {
                    return false;
                }
            }
            return true;
        }

        // VOLUME and COPY stand behind all others, so a WORK is what stands ahead of them.
        private int lengthOfWork(int mark) {
            int length = 0;
            while (length < lengthOf(mark) && Part.kindOf(partOf(mark, length)) < VOLUME) {
                length++;
            }
            return length;
        }

        void spell(int mark, ByteRow to) {
            int ahead = NONE;
            for (int k = 0; k < lengthOf(mark); k++) {
                int kind = Part.kindOf(partOf(mark, k));
                boolean joined = ahead == LETTERS && kind == WHOLE || ahead == WHOLE && kind == DECIMAL;
                if (k > 0 && !joined) {
                    to.add(BLANK);
                }
                Part.spell(partOf(mark, k), to);
                ahead = kind;
            }
        }

        void become(Marks other) {
            made = other.made;
            System.arraycopy(other.lengths, 0, lengths, 0, MAX_MARKS);
            System.arraycopy(other.parts, 0, parts, 0, MAX_MARKS * MAX_PARTS);
        }
    }

    /**
     * The SHELVES and BOOKS, and what stands where. A thing is what stands at a PLACE: a BOOK's
     * number, or DUMMY_CODE more for its DUMMY.
     */
    private static final class Stacks {
        int shelvesMade;
        private final int[] shelfWidths = new int[MAX_SHELVES];
        private final int[] shelfHeights = new int[MAX_SHELVES];
        private final int[] things = new int[MAX_SHELVES * MAX_PLACES];
        int booksMade;
        final int[] kinds = new int[MAX_BOOKS];
        final int[] bookMarks = new int[MAX_BOOKS];
        final int[] bookWidths = new int[MAX_BOOKS];
        final int[] lastVolumes = new int[MAX_BOOKS];
        final int[] bookShelves = new int[MAX_BOOKS];
        final int[] bookPlaces = new int[MAX_BOOKS];
        final int[] dummyShelves = new int[MAX_BOOKS];
        final int[] dummyPlaces = new int[MAX_BOOKS];

        boolean hasShelf(int shelf) {
            return shelf >= 0 && shelf < shelvesMade;
        }

        boolean hasBook(int book) {
            return book >= 0 && book < booksMade;
        }

        boolean isHigh(int shelf) {
            return hasShelf(shelf) && shelfHeights[shelf] == 1;
        }

        int widthOf(int shelf) {
            return hasShelf(shelf) ? shelfWidths[shelf] : 0;
        }

        private boolean hasPlace(int shelf, int place) {
            return hasShelf(shelf) && place >= 0 && place < MAX_PLACES;
        }

        int thingAt(int shelf, int place) {
            return hasPlace(shelf, place) ? things[shelf * MAX_PLACES + place] : NONE;
        }

        boolean isFree(int shelf, int place) {
            return hasPlace(shelf, place) && thingAt(shelf, place) == NONE;
        }

        private void setThing(int shelf, int place, int thing) {
            if (hasPlace(shelf, place)) {
                things[shelf * MAX_PLACES + place] = thing;
            }
        }

        private static int bookOf(int thing) {
            return thing >= DUMMY_CODE ? thing - DUMMY_CODE : thing;
        }

        int markOf(int thing) {
            int book = bookOf(thing);
            return hasBook(book) ? bookMarks[book] : NONE;
        }

        int widthTaken(int thing) {
            int book = bookOf(thing);
            if (!hasBook(book)) {
                return 0;
            }
            if (thing >= DUMMY_CODE) {
                return DUMMY_WIDTH;
            }
            return kinds[book] == BOXED ? bookWidths[book] + BOX_WIDTH : bookWidths[book];
        }

        int makeShelf(int width, boolean high) {
            if (shelvesMade >= MAX_SHELVES) {
                return NONE;
            }
            int shelf = shelvesMade;
            shelvesMade++;
            shelfWidths[shelf] = width;
            shelfHeights[shelf] = high ? 1 : 0;
            clearShelf(shelf);
            return shelf;
        }

        void clearShelf(int shelf) {
            for (int place = 0; place < MAX_PLACES; place++) {
                setThing(shelf, place, NONE);
            }
        }

        int makeBook(int kind, int mark, int width, int last) {
            if (booksMade >= MAX_BOOKS) {
                return NONE;
            }
            int book = booksMade;
            booksMade++;
            kinds[book] = kind;
            bookMarks[book] = mark;
            bookWidths[book] = width;
            lastVolumes[book] = last;
            notePlace(book, NONE, NONE);
            notePlace(DUMMY_CODE + book, NONE, NONE);
            return book;
        }

        private void notePlace(int thing, int shelf, int place) {
            int book = bookOf(thing);
            if (!hasBook(book)) {
                return;
            }
            if (thing >= DUMMY_CODE) {
                dummyShelves[book] = shelf;
                dummyPlaces[book] = place;
            } else {
                bookShelves[book] = shelf;
                bookPlaces[book] = place;
            }
        }

        void takeThing(int thing) {
            int book = bookOf(thing);
            if (!hasBook(book)) {
                return;
            }
            if (thing >= DUMMY_CODE) {
                setThing(dummyShelves[book], dummyPlaces[book], NONE);
            } else {
                setThing(bookShelves[book], bookPlaces[book], NONE);
            }
            notePlace(thing, NONE, NONE);
        }

        void putThing(int thing, int shelf, int place) {
            takeThing(thing);
            setThing(shelf, place, thing);
            notePlace(thing, shelf, place);
        }

        int roomNow(int shelf) {
            int room = widthOf(shelf);
            for (int place = 0; place < MAX_PLACES; place++) {
                int thing = thingAt(shelf, place);
                if (thing != NONE) {
                    room -= widthTaken(thing);
                }
            }
            return room;
        }

        void become(Stacks other) {
            shelvesMade = other.shelvesMade;
            System.arraycopy(other.shelfWidths, 0, shelfWidths, 0, MAX_SHELVES);
            System.arraycopy(other.shelfHeights, 0, shelfHeights, 0, MAX_SHELVES);
            System.arraycopy(other.things, 0, things, 0, MAX_SHELVES * MAX_PLACES);
            booksMade = other.booksMade;
            System.arraycopy(other.kinds, 0, kinds, 0, MAX_BOOKS);
            System.arraycopy(other.bookMarks, 0, bookMarks, 0, MAX_BOOKS);
            System.arraycopy(other.bookWidths, 0, bookWidths, 0, MAX_BOOKS);
            System.arraycopy(other.lastVolumes, 0, lastVolumes, 0, MAX_BOOKS);
            System.arraycopy(other.bookShelves, 0, bookShelves, 0, MAX_BOOKS);
            System.arraycopy(other.bookPlaces, 0, bookPlaces, 0, MAX_BOOKS);
            System.arraycopy(other.dummyShelves, 0, dummyShelves, 0, MAX_BOOKS);
            System.arraycopy(other.dummyPlaces, 0, dummyPlaces, 0, MAX_BOOKS);
        }
    }

    /** The READING at hand; without one its shelf is NONE. */
    private static final class Reading {
        int shelfRead = NONE;
        int length;
        private final int[] row = new int[MAX_READ];

        boolean isThere() {
            return shelfRead != NONE;
        }

        void begin(int shelf) {
            shelfRead = shelf;
            length = 0;
        }

        void end() {
            shelfRead = NONE;
            length = 0;
        }

        boolean add(int mark) {
            if (length < 0 || length >= MAX_READ) {
                return false;
            }
            row[length] = mark;
            length++;
            return true;
        }

        int markAt(int k) {
            return k >= 0 && k < length ? row[k] : NONE;
        }

        void shiftOne(int old, int fresh) {
            if (old < 0 || old >= length || fresh < 0 || fresh >= length) {
                return;
            }
            int mark = row[old];
            if (old < fresh) {
                System.arraycopy(row, old + 1, row, old, fresh - old);
            } else {
                System.arraycopy(row, fresh, row, fresh + 1, old - fresh);
            }
            row[fresh] = mark;
        }

        void become(Reading other) {
            shelfRead = other.shelfRead;
            length = other.length;
            System.arraycopy(other.row, 0, row, 0, MAX_READ);
        }
    }

    /** The LIST, and the latest READING of each shelf. */
    private static final class Catalogue {
        private static final int NEVER_GONE = 0;
        private static final int WAS_GONE = 1;
        private static final int FOUND_AGAIN = 2;

        int entries;
        private final int[] shelves = new int[MAX_MARKS];
        private final int[] traces = new int[MAX_MARKS];
        private final int[] readLengths = new int[MAX_SHELVES];
        private final int[] readMarks = new int[MAX_SHELVES * MAX_READ];

        Catalogue() {
            for (int mark = 0; mark < MAX_MARKS; mark++) {
                shelves[mark] = NONE;
            }
            for (int shelf = 0; shelf < MAX_SHELVES; shelf++) {
                readLengths[shelf] = NONE;
            }
        }

        private static boolean isMark(int mark) {
            return mark >= 0 && mark < MAX_MARKS;
        }

        int shelfOf(int mark) {
            return isMark(mark) ? shelves[mark] : NONE;
        }

        void enter(int mark, int shelf) {
            if (!isMark(mark)) {
                return;
            }
            if (shelves[mark] == NONE) {
                entries++;
            }
            shelves[mark] = shelf;
        }

        // With the MARK the LIST forgets that it was GONE, too: listed anew, it begins afresh.
        boolean strike(int mark) {
            if (shelfOf(mark) == NONE) {
                return false;
            }
            shelves[mark] = NONE;
            traces[mark] = NEVER_GONE;
            entries--;
            return true;
        }

        boolean isRead(int shelf) {
            return shelf >= 0 && shelf < MAX_SHELVES && readLengths[shelf] != NONE;
        }

        private int timesRead(int shelf, int mark) {
            int times = 0;
            for (int k = 0; isRead(shelf) && k < readLengths[shelf] && k < MAX_READ; k++) {
                if (readMarks[shelf * MAX_READ + k] == mark) {
                    times++;
                }
            }
            return times;
        }

        private boolean isGone(int shelf, int mark) {
            return shelfOf(mark) == shelf && isRead(shelf) && timesRead(shelf, mark) == 0;
        }

        int countGone(int shelf) {
            int gone = 0;
            for (int mark = 0; mark < MAX_MARKS; mark++) {
                if (isGone(shelf, mark)) {
                    gone++;
                }
            }
            return gone;
        }

        void keepReading(Reading reading) {
            int shelf = reading.shelfRead;
            if (shelf < 0 || shelf >= MAX_SHELVES) {
                return;
            }
            readLengths[shelf] = reading.length;
            for (int k = 0; k < reading.length && k < MAX_READ; k++) {
                readMarks[shelf * MAX_READ + k] = reading.markAt(k);
            }
            for (int mark = 0; mark < MAX_MARKS; mark++) {
                traceMark(mark, shelf);
            }
        }

        private void traceMark(int mark, int shelf) {
            if (!isMark(mark)) {
                return;
            }
            if (isGone(shelf, mark)) {
                traces[mark] = WAS_GONE;
            } else if (traces[mark] == WAS_GONE && timesRead(shelf, mark) > 0) {
                traces[mark] = FOUND_AGAIN;
            }
        }

        boolean isSuch(int shelf, int what, int mark) {
            switch (what) {
                case 0: return isGone(shelf, mark);
                case 1: return timesRead(shelf, mark) > 1;
                case 2: return isMark(mark) && shelves[mark] == shelf && traces[mark] == FOUND_AGAIN;
                default: return false;
            }
        }

        void become(Catalogue other) {
            entries = other.entries;
            System.arraycopy(other.shelves, 0, shelves, 0, MAX_MARKS);
            System.arraycopy(other.traces, 0, traces, 0, MAX_MARKS);
            System.arraycopy(other.readLengths, 0, readLengths, 0, MAX_SHELVES);
            System.arraycopy(other.readMarks, 0, readMarks, 0, MAX_SHELVES * MAX_READ);
        }
    }

    /** The GROWTHS, and how many BOOKS of each stand, in all and on each shelf. */
    private static final class Growths {
        int made;
        private final int[] froms = new int[MAX_GROWTHS];
        private final int[] tos = new int[MAX_GROWTHS];
        private final int[] millimetres = new int[MAX_GROWTHS];
        private final int[] allBooks = new int[MAX_GROWTHS];
        private final int[] shelfBooks = new int[MAX_GROWTHS * MAX_SHELVES];

        int make(int from, int to, int millimetresYearly) {
            if (made >= MAX_GROWTHS) {
                return NONE;
            }
            froms[made] = from;
            tos[made] = to;
            millimetres[made] = millimetresYearly;
            made++;
            return made;
        }

        void countBooks(Marks marks, Stacks stacks) {
            for (int growth = 0; growth < made && growth < MAX_GROWTHS; growth++) {
                allBooks[growth] = 0;
                for (int shelf = 0; shelf < MAX_SHELVES; shelf++) {
                    shelfBooks[growth * MAX_SHELVES + shelf] = 0;
                }
                for (int book = 0; book < stacks.booksMade && book < MAX_BOOKS; book++) {
                    int shelf = stacks.bookShelves[book];
                    if (stacks.hasShelf(shelf) && isOf(growth, stacks.bookMarks[book], marks)) {
                        allBooks[growth]++;
                        shelfBooks[growth * MAX_SHELVES + shelf]++;
                    }
                }
            }
        }

        private boolean isOf(int growth, int mark, Marks marks) {
            return marks.compare(mark, froms[growth], 0) >= 0 && marks.compare(mark, tos[growth], 0) <= 0;
        }

        int lossOf(int shelf, int years) {
            int loss = 0;
            for (int growth = 0; growth < made && growth < MAX_GROWTHS; growth++) {
                int all = allBooks[growth];
                if (all > 0 && shelf >= 0 && shelf < MAX_SHELVES) {
                    int shares = years * millimetres[growth] * shelfBooks[growth * MAX_SHELVES + shelf];
                    loss += (shares + all - 1) / all;
                }
            }
            return loss;
        }

        void become(Growths other) {
            made = other.made;
            System.arraycopy(other.froms, 0, froms, 0, MAX_GROWTHS);
            System.arraycopy(other.tos, 0, tos, 0, MAX_GROWTHS);
            System.arraycopy(other.millimetres, 0, millimetres, 0, MAX_GROWTHS);
        }
    }

    /** All that an image keeps. */
    private static final class State {
        final Marks marks = new Marks();
        final Stacks stacks = new Stacks();
        final Reading atHand = new Reading();
        final Catalogue catalogue = new Catalogue();
        final Growths growths = new Growths();
        int sortWay;

        int compare(int a, int b) {
            return marks.compare(a, b, sortWay);
        }

        void become(State other) {
            marks.become(other.marks);
            stacks.become(other.stacks);
            atHand.become(other.atHand);
            catalogue.become(other.catalogue);
            growths.become(other.growths);
            sortWay = other.sortWay;
        }
    }

    /** Which of the READING at hand are RIGHT and which are WRONG. */
    private static final class Sequence {
        int rightCount;
        private int length;
        private final int[] longest = new int[MAX_READ];
        private final int[] rights = new int[MAX_READ];

        void study(State state) {
            length = Math.min(state.atHand.length, MAX_READ);
            rightCount = 0;
            for (int k = length - 1; k >= 0; k--) {
                longest[k] = longestFrom(k, state);
                rightCount = Math.max(rightCount, longest[k]);
                rights[k] = 0;
            }
            chooseRights(state);
        }

        private int longestFrom(int k, State state) {
            int behind = 0;
            for (int j = k + 1; j < length; j++) {
                if (longest[j] > behind && follows(k, j, state)) {
                    behind = longest[j];
                }
            }
            return behind + 1;
        }

        private static boolean follows(int k, int j, State state) {
            return state.marks.compare(state.atHand.markAt(k), state.atHand.markAt(j), state.sortWay) <= 0;
        }

        // The least place from which the rest is still long enough gives the row whose places are least.
        private void chooseRights(State state) {
            int wanted = rightCount;
            int latest = NONE;
            for (int k = 0; k < length && wanted > 0; k++) {
                if (longest[k] == wanted && (latest == NONE || follows(latest, k, state))) {
                    rights[k] = 1;
                    latest = k;
                    wanted--;
                }
            }
        }

        int placeOf(boolean right, int number) {
            int left = number;
            for (int k = 0; k < length && left >= 0; k++) {
                if ((rights[k] == 1) == right) {
                    if (left == 0) {
                        return k;
                    }
                    left--;
                }
            }
            return NONE;
        }

        int newPlaceOf(int old, State state) {
            int fresh = 0;
            for (int k = 0; k < length; k++) {
                if (rights[k] == 1 && follows(k, old, state)) {
                    fresh = k < old ? k + 1 : k;
                }
            }
            return fresh;
        }
    }

    /** Makes the PLAN of a FLOOR, keeps it at hand and carries it out. */
    private static final class Shifter {
        // A BOOK has one thing on COMMON shelves at most, itself or its DUMMY.
        private static final int MAX_THINGS = MAX_BOOKS;
        private static final int ROW = MAX_THINGS + 1;
        private static final int IMPOSSIBLE = 1000000;

        private int count;
        private final int[] floor = new int[MAX_THINGS];
        private final int[] marks = new int[MAX_THINGS];
        private final int[] oldShelves = new int[MAX_THINGS];
        private final int[] widths = new int[MAX_THINGS];
        private final int[] mayEnd = new int[ROW];
        private final int[] fewestChanged = new int[(MAX_SHELVES + 1) * ROW];
        private final int[] bestEnds = new int[MAX_SHELVES * ROW];
        private int leastWidth;
        private int greatestWidth;

        private boolean atHand;
        private int firstShelf;
        private int shelves;
        private final int[] ends = new int[MAX_SHELVES];
        private final int[] thingsThen = new int[MAX_SHELVES * MAX_PLACES];

        int makePlan(State state, int first, int last, int least, int greatest) {
            int many = last - first + 1;
            if (first < 0 || many < 1 || many > MAX_SHELVES) {
                return NONE;
            }
            gather(state.stacks, first, last);
            findEnds(state, first, last, greatest);
            for (int end = 0; end <= count; end++) {
                fewestChanged[many * ROW + end] = end == count ? 0 : IMPOSSIBLE;
            }
            for (int k = many - 1; k >= 0; k--) {
                int width = state.stacks.widthOf(first + k);
                leastWidth = width * least / 100;
                greatestWidth = width * greatest / 100;
                for (int begin = 0; begin <= count; begin++) {
                    fill(k, begin, first + k);
                }
            }
            if (fewestChanged[0] >= IMPOSSIBLE) {
                return NONE;
            }
            keepPlan(state.stacks, first, many);
            return fewestChanged[0];
        }

        private void gather(Stacks stacks, int first, int last) {
            count = 0;
            for (int shelf = first; shelf <= last; shelf++) {
                for (int place = 0; place < MAX_PLACES; place++) {
                    int thing = stacks.thingAt(shelf, place);
                    if (thing != NONE && count < MAX_THINGS) {
                        floor[count] = thing;
                        marks[count] = stacks.markOf(thing);
                        oldShelves[count] = shelf;
                        widths[count] = stacks.widthTaken(thing);
                        count++;
                    }
                }
            }
        }

        // A shelf may end ahead of a thing that begins a WORK, or inside a WORK too wide to be kept together.
        private void findEnds(State state, int first, int last, int greatest) {
            int narrowest = state.stacks.widthOf(first);
            for (int shelf = first; shelf <= last; shelf++) {
                narrowest = Math.min(narrowest, state.stacks.widthOf(shelf));
            }
            int widest = narrowest * greatest / 100;
            int begin = 0;
            int width = 0;
            for (int k = 0; k < count; k++) {
                width += widths[k];
                if (k + 1 == count || !state.marks.areOfOneWork(marks[k], marks[k + 1])) {
                    markEnds(begin, k, width > widest);
                    begin = k + 1;
                    width = 0;
                }
            }
            mayEnd[count] = 1;
        }

        private void markEnds(int begin, int lastOfWork, boolean mayBeParted) {
            for (int end = begin; end <= lastOfWork; end++) {
                mayEnd[end] = end == begin || mayBeParted ? 1 : 0;
            }
        }

        // The shelf k of the FLOOR takes what stands from begin on; the least of the best ends is kept.
        private void fill(int k, int begin, int shelf) {
            int best = IMPOSSIBLE;
            int bestEnd = begin;
            int width = 0;
            int changed = 0;
            for (int end = begin; end <= count && end - begin <= MAX_PLACES; end++) {
                if (end > begin) {
                    width += widths[end - 1];
                    changed += oldShelves[end - 1] == shelf ? 0 : 1;
                }
                if (width > greatestWidth) {
                    break;
                }
                boolean wideEnough = end == begin || end == count || width >= leastWidth;
                int all = changed + fewestChanged[(k + 1) * ROW + end];
                if (wideEnough && mayEnd[end] == 1 && all < best) {
                    best = all;
                    bestEnd = end;
                }
            }
            fewestChanged[k * ROW + begin] = best;
            bestEnds[k * ROW + begin] = bestEnd;
        }

        private void keepPlan(Stacks stacks, int first, int many) {
            atHand = true;
            firstShelf = first;
            shelves = many;
            int begin = 0;
            for (int k = 0; k < many; k++) {
                ends[k] = bestEnds[k * ROW + begin];
                begin = ends[k];
                for (int place = 0; place < MAX_PLACES; place++) {
                    thingsThen[k * MAX_PLACES + place] = stacks.thingAt(first + k, place);
                }
            }
        }

        void dropPlan() {
            atHand = false;
        }

        int endOf(int k) {
            return atHand && k >= 0 && k < shelves ? ends[k] : NONE;
        }

        boolean carryOut(Stacks stacks) {
            boolean stillHolds = atHand && isAsThen(stacks);
            atHand = false;
            if (!stillHolds) {
                return false;
            }
            gather(stacks, firstShelf, firstShelf + shelves - 1);
            for (int k = 0; k < count; k++) {
                stacks.takeThing(floor[k]);
            }
            int begin = 0;
            for (int k = 0; k < shelves; k++) {
                for (int next = begin; next < ends[k] && next < count; next++) {
                    stacks.putThing(floor[next], firstShelf + k, next - begin);
                }
                begin = ends[k];
            }
            return true;
        }

        private boolean isAsThen(Stacks stacks) {
            for (int k = 0; k < shelves; k++) {
                for (int place = 0; place < MAX_PLACES; place++) {
                    if (thingsThen[k * MAX_PLACES + place] != stacks.thingAt(firstShelf + k, place)) {
                        return false;
                    }
                }
            }
            return true;
        }
    }
}
