import java.util.ArrayList;
import java.util.Arrays;
import java.util.HashSet;
import java.util.List;
import java.util.Set;
import java.util.TreeMap;
import java.util.TreeSet;
import java.util.regex.Matcher;
import java.util.regex.Pattern;

/**
 * The document said once more, plainly and slowly, to hold the program against: MARKS are texts,
 * FAULTS are found by following all ways a TEXT may go on, and the best rows and PLANS by trying all.
 */
final class Model {
    private static final int NONE = -1;

    private static final class Book {
        int kind, mark, width, last, shelf = NONE, place = NONE, dummyShelf = NONE, dummyPlace = NONE;

        Book copy() {
            Book b = new Book();
            b.kind = kind;
            b.mark = mark;
            b.width = width;
            b.last = last;
            b.shelf = shelf;
            b.place = place;
            b.dummyShelf = dummyShelf;
            b.dummyPlace = dummyPlace;
            return b;
        }
    }

    private static final class All {
        List<String> marks = new ArrayList<>();
        List<Integer> widths = new ArrayList<>();
        List<Boolean> highs = new ArrayList<>();
        List<Book> books = new ArrayList<>();
        List<Integer> reading;
        int readingShelf = NONE;
        TreeMap<Integer, List<Integer>> latest = new TreeMap<>();
        TreeMap<Integer, Integer> list = new TreeMap<>();
        Set<Integer> missed = new TreeSet<>();
        Set<Integer> found = new TreeSet<>();
        List<int[]> growths = new ArrayList<>();
        int way;

        All copy() {
            All a = new All();
            a.marks.addAll(marks);
            a.widths.addAll(widths);
            a.highs.addAll(highs);
            for (Book b : books) {
                a.books.add(b.copy());
            }
            a.reading = reading == null ? null : new ArrayList<>(reading);
            a.readingShelf = readingShelf;
            a.latest.putAll(latest);
            a.list.putAll(list);
            a.missed.addAll(missed);
            a.found.addAll(found);
            a.growths.addAll(growths);
            a.way = way;
            return a;
        }
    }

    private All s = new All();
    private final All[] images = new All[4];
    private String tape = "";
    private String out = "";
    private int fault = NONE;
    private List<Integer> planEnds;
    private int planFirst;
    private int planLast;
    private String planThen;

    // ---- marks

    int feed(int a, int b, int c, int d, int e) {
        if (tape.length() > 60) {
            return NONE;
        }
        for (int number : new int[] {a, b, c, d, e}) {
            for (int k = 3; k >= 0; k--) {
                tape += (char) (number >> 8 * k & 255);
            }
        }
        return tape.length();
    }

    int mark(int n) {
        fault = NONE;
        if (n < 0 || n > tape.length()) {
            return -3;
        }
        String text = tape.substring(0, n);
        tape = "";
        fault = faultOf(text);
        if (n > 60 && (fault == NONE || fault > 60)) {
            fault = 60;
        }
        if (fault != NONE) {
            return NONE;
        }
        if (!s.marks.contains(text)) {
            if (s.marks.size() == 200) {
                return -2;
            }
            s.marks.add(text);
        }
        return s.marks.indexOf(text);
    }

    /** Where a TEXT may be: kind of the PART it is in (7: behind a point, 8: behind a blank), its signs, whether a 0 is last. */
    private record Spot(int parts, int ahead, int kind, int signs, boolean zeroLast, boolean blank) {
        Set<Spot> next(char b) {
            Set<Spot> ways = new HashSet<>();
            boolean digit = b >= '0' && b <= '9';
            boolean letter = b >= 'A' && b <= 'Z';
            if (kind == 0 && letter && signs < 3) {
                ways.add(new Spot(parts, ahead, 0, signs + 1, false, blank));
            }
            if (kind == 1 && digit && signs < 4 && !(signs == 1 && zeroLast)) {
                ways.add(new Spot(parts, ahead, 1, signs + 1, b == '0', blank));
            }
            if (kind == 2 && digit && signs < 6) {
                ways.add(new Spot(parts, ahead, 2, signs + 1, b == '0', blank));
            }
            if (kind == 3 && digit && signs < 4 && (signs > 0 || b == '1' || b == '2')) {
                ways.add(new Spot(parts, ahead, 3, signs + 1, false, blank));
            }
            if (kind == 4 && digit && signs < 6) {
                ways.add(new Spot(parts, ahead, 4, signs + 1, b == '0', blank));
            }
            if ((kind == 5 || kind == 6) && digit && signs < 3 && (signs > 0 || b != '0')) {
                ways.add(new Spot(parts, ahead, kind, signs + 1, false, blank));
            }
            if (kind == 7 && digit && (ahead != 1 || !blank)) {
                ways.add(new Spot(parts, ahead, 2, 1, b == '0', blank));
            }
            if (kind == 7 && letter && (ahead != 1 || blank)) {
                ways.add(new Spot(parts, ahead, 4, 1, true, blank));
            }
            if (kind == 8) {
                begin(b, ways);
            }
            if (kind < 7 && isWhole() && parts < 8 && kind != 6) {
                if (b == ' ') {
                    ways.add(new Spot(parts, kind, 8, 0, false, true));
                }
                if (kind == 0 && digit || kind == 1 && b == '.') {
                    new Spot(parts, kind, 8, 0, false, false).begin(b, ways);
                }
            }
            return ways;
        }

        private void begin(char b, Set<Spot> ways) {
            if (ahead == 5 && b != 'c') {
                return;
            }
            if (b >= 'A' && b <= 'Z') {
                ways.add(new Spot(parts + 1, ahead, 0, 1, false, blank));
            }
            if (b >= '0' && b <= '9' && !(ahead == 0 && blank)) {
                ways.add(new Spot(parts + 1, ahead, 1, 1, b == '0', blank));
            }
            if (b == '.') {
                ways.add(new Spot(parts + 1, ahead, 7, 0, false, blank));
            }
            int number = "yvc".indexOf(b);
            if (number >= 0) {
                ways.add(new Spot(parts + 1, ahead, new int[] {3, 5, 6}[number], 0, false, blank));
            }
        }

        boolean isWhole() {
            switch (kind) {
                case 0: case 1: return true;
                case 2: return !zeroLast;
                case 3: return signs == 4;
                case 4: return signs > 1 && !zeroLast;
                case 5: case 6: return signs > 0;
                default: return false;
            }
        }
    }

    static int faultOf(String text) {
        Set<Spot> spots = Set.of(new Spot(0, NONE, 8, 0, false, false));
        for (int i = 0; i < text.length(); i++) {
            Set<Spot> next = new HashSet<>();
            for (Spot spot : spots) {
                next.addAll(spot.next(text.charAt(i)));
            }
            if (next.isEmpty()) {
                return i;
            }
            spots = next;
        }
        for (Spot spot : spots) {
            if (spot.isWhole()) {
                return NONE;
            }
        }
        return text.length();
    }

    int fault() {
        return fault;
    }

    private static final Pattern PART = Pattern.compile("\\.[A-Z]\\d+|\\.\\d+|y\\d+|v\\d+|c\\d+|[A-Z]+|\\d+");

    private static List<String> partsOf(String text) {
        List<String> parts = new ArrayList<>();
        Matcher matcher = PART.matcher(text);
        while (matcher.find()) {
            parts.add(matcher.group());
        }
        return parts;
    }

    private static int kindOf(String part) {
        char first = part.charAt(0);
        if (first == '.') {
            return Character.isDigit(part.charAt(1)) ? 2 : 4;
        }
        return Character.isDigit(first) ? 1 : "y?vc".indexOf(first) < 0 ? 0 : 3 + "y?vc".indexOf(first);
    }

    int count(int what) {
        switch (what) {
            case 0: return s.marks.size();
            case 1: return s.widths.size();
            case 2: return s.books.size();
            case 3: return s.list.size();
            case 4: return s.growths.size();
            case 5: return s.reading == null ? NONE : s.reading.size();
            case 6: return s.reading == null ? NONE : s.readingShelf;
            case 7: return s.way;
            default: return NONE;
        }
    }

    int part(int mark, int k, int what) {
        if (!isMark(mark) || k < 0 || k >= partsOf(s.marks.get(mark)).size() || what < 0 || what > 3) {
            return NONE;
        }
        String part = partsOf(s.marks.get(mark)).get(k);
        int kind = kindOf(part);
        String digits = kind == 2 ? part.substring(1) : kind == 4 ? part.substring(2) : "";
        switch (what) {
            case 0: return kind;
            case 1: return valueOf(part, kind);
            case 2: return digits.isEmpty() ? 0 : Integer.parseInt(digits);
            default: return digits.length();
        }
    }

    private static int valueOf(String part, int kind) {
        switch (kind) {
            case 0:
                int value = 0;
                for (char letter : part.toCharArray()) {
                    value = 27 * value + letter - 'A' + 1;
                }
                return value;
            case 1: return Integer.parseInt(part);
            case 2: return 0;
            case 4: return part.charAt(1) - 'A' + 1;
            default: return Integer.parseInt(part.substring(1));
        }
    }

    private boolean isMark(int mark) {
        return mark >= 0 && mark < s.marks.size();
    }

    int write(int mark) {
        if (!isMark(mark)) {
            return NONE;
        }
        out = s.marks.get(mark);
        return out.length();
    }

    int out(int i) {
        return i >= 0 && i < out.length() ? out.charAt(i) : NONE;
    }

    boolean way(int way) {
        if (way >> 1 != 0) {
            return false;
        }
        s.way = way;
        return true;
    }

    private int compare(int a, int b, int way) {
        List<String> pa = partsOf(s.marks.get(a));
        List<String> pb = partsOf(s.marks.get(b));
        for (int k = 0; k < 8; k++) {
            if (k >= pa.size() || k >= pb.size()) {
                return Integer.signum(pa.size() - pb.size());
            }
            int told = compareParts(pa.get(k), pb.get(k), way);
            if (told != 0) {
                return Integer.signum(told);
            }
        }
        return 0;
    }

    private static int compareParts(String a, String b, int way) {
        int kind = kindOf(a);
        if (kind != kindOf(b)) {
            return kind - kindOf(b);
        }
        if (kind == 0) {
            return a.compareTo(b);
        }
        if (kind == 4 && a.charAt(1) != b.charAt(1)) {
            return a.charAt(1) - b.charAt(1);
        }
        if (kind == 2 || kind == 4) {
            return way == 1 && a.length() != b.length() ? a.length() - b.length() : a.compareTo(b);
        }
        return valueOf(a, kind) - valueOf(b, kind);
    }

    private boolean ahead(int a, int b) {
        return compare(a, b, s.way) < 0;
    }

    int sorts(int a, int b) {
        return isMark(a) && isMark(b) ? compare(a, b, s.way) : -2;
    }

    // ---- shelves, books

    int shelf(int width, boolean high) {
        if (s.widths.size() == 16 || width < 100 || width > 2000) {
            return NONE;
        }
        s.widths.add(width);
        s.highs.add(high);
        return s.widths.size() - 1;
    }

    int book(int kind, int mark, int width, int last) {
        if (s.books.size() == 200 || !isMark(mark) || kind < 0 || kind > 3 || width < 1 || width > 200) {
            return NONE;
        }
        if (kind == 2) {
            int volume = 10000;
            for (String part : partsOf(s.marks.get(mark))) {
                if (kindOf(part) == 5) {
                    volume = valueOf(part, 5);
                }
            }
            if (last < volume || last > 999) {
                return NONE;
            }
        }
        Book b = new Book();
        b.kind = kind;
        b.mark = mark;
        b.width = width;
        b.last = kind == 2 ? last : 0;
        s.books.add(b);
        return s.books.size() - 1;
    }

    private boolean isShelf(int shelf) {
        return shelf >= 0 && shelf < s.widths.size();
    }

    private boolean isBook(int book) {
        return book >= 0 && book < s.books.size();
    }

    int place(int shelf, int place) {
        for (int k = 0; isShelf(shelf) && place >= 0 && k < s.books.size(); k++) {
            Book b = s.books.get(k);
            if (b.shelf == shelf && b.place == place) {
                return k;
            }
            if (b.dummyShelf == shelf && b.dummyPlace == place) {
                return 1000 + k;
            }
        }
        return NONE;
    }

    boolean stand(int book, int shelf, int place) {
        if (!isBook(book) || !isShelf(shelf) || place < 0 || place > 29) {
            return false;
        }
        Book b = s.books.get(book);
        if (s.highs.get(shelf) != (b.kind == 1) || place(shelf, place) != NONE) {
            return false;
        }
        b.shelf = shelf;
        b.place = place;
        return true;
    }

    boolean dummy(int book, int shelf, int place) {
        if (!isBook(book) || !isShelf(shelf) || place < 0 || place > 29) {
            return false;
        }
        Book b = s.books.get(book);
        if (b.kind != 1 || b.shelf == NONE || s.highs.get(shelf) || place(shelf, place) != NONE) {
            return false;
        }
        b.dummyShelf = shelf;
        b.dummyPlace = place;
        return true;
    }

    boolean off(int book) {
        if (!isBook(book) || s.books.get(book).shelf == NONE) {
            return false;
        }
        Book b = s.books.get(book);
        b.shelf = NONE;
        b.place = NONE;
        b.dummyShelf = NONE;
        b.dummyPlace = NONE;
        return true;
    }

    int tell(int book, int what) {
        if (!isBook(book) || what < 0 || what > 7) {
            return NONE;
        }
        Book b = s.books.get(book);
        return new int[] {b.kind, b.mark, b.width, b.last, b.shelf, b.place, b.dummyShelf, b.dummyPlace}[what];
    }

    private List<Integer> things(int shelf) {
        List<Integer> things = new ArrayList<>();
        for (int place = 0; place < 30; place++) {
            if (place(shelf, place) != NONE) {
                things.add(place(shelf, place));
            }
        }
        return things;
    }

    private int widthOf(int thing) {
        Book b = s.books.get(thing % 1000);
        return thing >= 1000 ? 5 : b.kind == 3 ? b.width + 10 : b.width;
    }

    int room(int shelf, int y) {
        if (!isShelf(shelf) || y < 0 || y > 60) {
            return -1000000;
        }
        int room = s.widths.get(shelf);
        for (int thing : things(shelf)) {
            room -= widthOf(thing);
        }
        for (int[] growth : s.growths) {
            int here = 0;
            int all = 0;
            for (Book b : s.books) {
                if (b.shelf != NONE && compare(growth[0], b.mark, 0) <= 0 && compare(b.mark, growth[1], 0) <= 0) {
                    all++;
                    here += b.shelf == shelf ? 1 : 0;
                }
            }
            room -= all == 0 ? 0 : (int) Math.ceil(y * growth[2] * here / (double) all - 1e-9);
        }
        return room;
    }

    // ---- readings

    boolean run(int shelf, boolean whole) {
        if (!isShelf(shelf)) {
            return false;
        }
        s.readingShelf = shelf;
        s.reading = new ArrayList<>();
        if (whole) {
            for (int thing : things(shelf)) {
                s.reading.add(s.books.get(thing % 1000).mark);
            }
        }
        return true;
    }

    int seen(int mark) {
        if (s.reading == null || !isMark(mark) || s.reading.size() == 60) {
            return NONE;
        }
        s.reading.add(mark);
        return s.reading.size();
    }

    int read(int k) {
        return s.reading == null || k < 0 || k >= s.reading.size() ? NONE : s.reading.get(k);
    }

    private static boolean isBetter(List<Integer> a, List<Integer> b) {
        if (a.size() != b.size()) {
            return a.size() > b.size();
        }
        for (int k = 0; k < a.size(); k++) {
            if (!a.get(k).equals(b.get(k))) {
                return a.get(k) < b.get(k);
            }
        }
        return false;
    }

    private List<Integer> rights() {
        int n = s.reading.size();
        return n <= 9 ? rightsOfAll(n) : rightsByEnds(n);
    }

    private List<Integer> rightsOfAll(int n) {
        List<Integer> best = new ArrayList<>();
        for (int set = 0; set < 1 << n; set++) {
            List<Integer> row = new ArrayList<>();
            boolean inOrder = true;
            for (int k = 0; k < n; k++) {
                if ((set >> k & 1) == 1) {
                    for (int j : row) {
                        inOrder &= !ahead(s.reading.get(k), s.reading.get(j));
                    }
                    row.add(k);
                }
            }
            if (inOrder && isBetter(row, best)) {
                best = row;
            }
        }
        return best;
    }

    private List<Integer> rightsByEnds(int n) {
        List<List<Integer>> bestTo = new ArrayList<>();
        List<Integer> best = new ArrayList<>();
        for (int k = 0; k < n; k++) {
            List<Integer> here = new ArrayList<>();
            for (int j = 0; j < k; j++) {
                if (!ahead(s.reading.get(k), s.reading.get(j)) && isBetter(bestTo.get(j), here)) {
                    here = bestTo.get(j);
                }
            }
            here = new ArrayList<>(here);
            here.add(k);
            bestTo.add(here);
            if (isBetter(here, best)) {
                best = here;
            }
        }
        return best;
    }

    private List<Integer> wrongs() {
        List<Integer> wrongs = new ArrayList<>();
        for (int k = 0; k < s.reading.size(); k++) {
            wrongs.add(k);
        }
        wrongs.removeAll(rights());
        return wrongs;
    }

    int order(boolean right, int k) {
        if (s.reading == null) {
            return NONE;
        }
        List<Integer> places = right ? rights() : wrongs();
        return k < 0 || k >= places.size() ? NONE : places.get(k);
    }

    int fewest() {
        return s.reading == null ? NONE : wrongs().size();
    }

    int move() {
        if (s.reading == null || wrongs().isEmpty()) {
            return NONE;
        }
        int old = wrongs().get(0);
        int mark = s.reading.get(old);
        int behind = NONE;
        for (int k : rights()) {
            if (!ahead(mark, s.reading.get(k))) {
                behind = k;
            }
        }
        s.reading.remove(old);
        int fresh = behind == NONE ? 0 : behind > old ? behind : behind + 1;
        s.reading.add(fresh, mark);
        return 100 * old + fresh;
    }

    int where(int mark) {
        if (s.reading == null || !isMark(mark)) {
            return NONE;
        }
        for (int k = 1; k < s.reading.size(); k++) {
            if (ahead(s.reading.get(k), s.reading.get(k - 1))) {
                return NONE;
            }
        }
        int where = 0;
        while (where < s.reading.size() && !ahead(mark, s.reading.get(where))) {
            where++;
        }
        return where;
    }

    int between(int mark, int what) {
        int where = where(mark);
        if (where == NONE || what != 0 && what != 1) {
            return NONE;
        }
        return read(where - 1 + what);
    }

    private List<Integer> gone(int shelf) {
        List<Integer> gone = new ArrayList<>();
        for (int mark : s.list.keySet()) {
            if (s.list.get(mark) == shelf && !s.latest.get(shelf).contains(mark)) {
                gone.add(mark);
            }
        }
        return gone;
    }

    int done() {
        if (s.reading == null) {
            return NONE;
        }
        s.latest.put(s.readingShelf, s.reading);
        for (int mark : s.reading) {
            if (s.missed.contains(mark)) {
                s.found.add(mark);
            }
        }
        List<Integer> gone = gone(s.readingShelf);
        s.missed.addAll(gone);
        s.found.removeAll(gone);
        s.reading = null;
        return gone.size();
    }

    // ---- the list

    boolean list(int mark, int shelf) {
        if (!isMark(mark) || !isShelf(shelf)) {
            return false;
        }
        s.list.put(mark, shelf);
        return true;
    }

    boolean forget(int mark) {
        s.missed.remove(mark);
        s.found.remove(mark);
        return s.list.remove(mark) != null;
    }

    int listed(int mark) {
        return s.list.getOrDefault(mark, NONE);
    }

    int found(int shelf, int what, int k) {
        if (!s.latest.containsKey(shelf) || what < 0 || what > 2) {
            return NONE;
        }
        List<Integer> such = what == 0 ? gone(shelf) : new ArrayList<>();
        for (int mark = 0; mark < s.marks.size(); mark++) {
            int number = mark;
            if (what == 1 && s.latest.get(shelf).stream().filter(m -> m == number).count() > 1) {
                such.add(mark);
            }
            if (what == 2 && s.found.contains(mark) && listed(mark) == shelf) {
                such.add(mark);
            }
        }
        return k < 0 || k >= such.size() ? NONE : such.get(k);
    }

    int check(int shelf) {
        if (!isShelf(shelf)) {
            return -2;
        }
        List<Integer> things = things(shelf);
        for (int k = 1; k < things.size(); k++) {
            if (ahead(s.books.get(things.get(k) % 1000).mark, s.books.get(things.get(k - 1) % 1000).mark)) {
                Book b = s.books.get(things.get(k) % 1000);
                return things.get(k) >= 1000 ? b.dummyPlace : b.place;
            }
        }
        return NONE;
    }

    // ---- growing, shifting

    int grow(int from, int to, int millimetres) {
        if (s.growths.size() == 12 || !isMark(from) || !isMark(to) || compare(to, from, 0) < 0 || millimetres < 1 || millimetres > 1000) {
            return NONE;
        }
        s.growths.add(new int[] {from, to, millimetres});
        return s.growths.size();
    }

    int full() {
        for (int y = 0; y <= 60; y++) {
            for (int shelf = 0; shelf < s.widths.size(); shelf++) {
                if (room(shelf, y) < 0) {
                    return 100 * y + shelf;
                }
            }
        }
        return NONE;
    }

    /** A FLOOR, and all that its PLANS are held against. */
    private final class Floor {
        final int first, last, least, greatest;
        final List<Integer> things = new ArrayList<>();
        final List<Integer> shelves = new ArrayList<>();
        int bestChanged = Integer.MAX_VALUE;
        List<Integer> best;

        Floor(int first, int last, int least, int greatest) {
            this.first = first;
            this.last = last;
            this.least = least;
            this.greatest = greatest;
            for (int shelf = first; shelf <= last; shelf++) {
                for (int thing : things(shelf)) {
                    things.add(thing);
                    shelves.add(shelf);
                }
            }
        }

        void tryAll(List<Integer> ends) {
            if (ends.size() == last - first + 1) {
                if (ends.get(ends.size() - 1) == things.size() && isPlan(ends) && changed(ends) < bestChanged) {
                    bestChanged = changed(ends);
                    best = new ArrayList<>(ends);
                }
                return;
            }
            int from = ends.isEmpty() ? 0 : ends.get(ends.size() - 1);
            for (int end = from; end <= things.size() && end <= from + 30; end++) {
                ends.add(end);
                tryAll(ends);
                ends.remove(ends.size() - 1);
            }
        }

        private int shelfIn(List<Integer> ends, int thing) {
            int k = 0;
            while (ends.get(k) <= thing) {
                k++;
            }
            return first + k;
        }

        private int changed(List<Integer> ends) {
            int changed = 0;
            for (int k = 0; k < things.size(); k++) {
                changed += shelfIn(ends, k) == shelves.get(k) ? 0 : 1;
            }
            return changed;
        }

        private boolean isPlan(List<Integer> ends) {
            int lastUsed = things.isEmpty() ? NONE : shelfIn(ends, things.size() - 1);
            for (int shelf = first; shelf <= last; shelf++) {
                int width = 0;
                int many = 0;
                for (int k = 0; k < things.size(); k++) {
                    if (shelfIn(ends, k) == shelf) {
                        width += widthOf(things.get(k));
                        many++;
                    }
                }
                boolean tooLittle = width < s.widths.get(shelf) * least / 100 && many > 0 && shelf != lastUsed;
                if (width > s.widths.get(shelf) * greatest / 100 || many > 30 || tooLittle) {
                    return false;
                }
            }
            return partsNoWork(ends);
        }

        private boolean partsNoWork(List<Integer> ends) {
            int narrowest = s.widths.subList(first, last + 1).stream().min(Integer::compare).get();
            for (int k = 0; k < things.size(); ) {
                int end = k;
                int width = 0;
                while (end < things.size() && workOf(things.get(end)).equals(workOf(things.get(k)))) {
                    width += widthOf(things.get(end));
                    end++;
                }
                if (shelfIn(ends, k) != shelfIn(ends, end - 1) && width <= narrowest * greatest / 100) {
                    return false;
                }
                k = end;
            }
            return true;
        }

        private List<String> workOf(int thing) {
            List<String> parts = partsOf(s.marks.get(s.books.get(thing % 1000).mark));
            parts.removeIf(part -> kindOf(part) > 4);
            return parts;
        }
    }

    /** How many rows of numbers shift() would try; the runs leave out what would take too long. */
    double dearness(int first, int last) {
        if (!isShelf(first) || !isShelf(last)) {
            return 0;
        }
        double rows = 1;
        int many = 0;
        for (int shelf = first; shelf <= last; shelf++) {
            many += things(shelf).size();
        }
        for (int k = 1; k <= last - first; k++) {
            rows = rows * (many + k) / k;
        }
        return rows * many;
    }

    int shift(int first, int last, int least, int greatest) {
        if (!isShelf(first) || !isShelf(last) || last < first || s.highs.subList(first, last + 1).contains(true)) {
            return NONE;
        }
        if (least < 0 || greatest < 0 || least > 100 || greatest > 100 || least > greatest) {
            return NONE;
        }
        Floor floor = new Floor(first, last, least, greatest);
        floor.tryAll(new ArrayList<>());
        if (floor.best == null) {
            return NONE;
        }
        planEnds = floor.best;
        planFirst = first;
        planLast = last;
        planThen = standing(first, last);
        return floor.bestChanged;
    }

    private String standing(int first, int last) {
        StringBuilder row = new StringBuilder();
        for (int shelf = first; shelf <= last; shelf++) {
            for (int place = 0; place < 30; place++) {
                row.append(place(shelf, place)).append(' ');
            }
        }
        return row.toString();
    }

    int plan(int k) {
        return planEnds == null || k < 0 || k >= planEnds.size() ? NONE : planEnds.get(k);
    }

    boolean lift() {
        List<Integer> ends = planEnds;
        planEnds = null;
        if (ends == null || !standing(planFirst, planLast).equals(planThen)) {
            return false;
        }
        Floor floor = new Floor(planFirst, planLast, 0, 0);
        for (int k = 0; k < floor.things.size(); k++) {
            int shelf = floor.shelfIn(ends, k);
            int begin = shelf == planFirst ? 0 : ends.get(shelf - planFirst - 1);
            Book b = s.books.get(floor.things.get(k) % 1000);
            if (floor.things.get(k) >= 1000) {
                b.dummyShelf = shelf;
                b.dummyPlace = k - begin;
            } else {
                b.shelf = shelf;
                b.place = k - begin;
            }
        }
        return true;
    }

    // ---- images

    boolean image(int k) {
        if (k < 0 || k > 3) {
            return false;
        }
        images[k] = s.copy();
        return true;
    }

    boolean again(int k) {
        if (k < 0 || k > 3 || images[k] == null) {
            return false;
        }
        s = images[k].copy();
        planEnds = null;
        return true;
    }

    @Override
    public String toString() {
        return s.marks + " " + Arrays.toString(images);
    }
}
