/** Counters of poems whose letters are numbers. */
public final class AbjadPoems {
    private static final int ORDERS = 3;
    private static final int ROUND = 0;
    private static final int PLAIN = 1;
    private static final int CROOKED = 2;
    private static final int LETTERS = 26;
    private static final int BASE = 27;
    private static final int MOST_LETTERS = 6;
    private static final int BEHIND_THE_WORDS = 387420489; // 27 to the power of 6
    private static final int ALL_PLACES = 63; // a bit for each of the 6 places
    private static final int MOST_LINES = 12;
    private static final int MOST_WORDS = 10;
    private static final int LAST_YEAR = 3000;
    private static final int FIGURES = 5; // of a word and of a line
    private static final int SIZE = 0; // of a line
    private static final int WORTH = 2; // of a word and of a line
    private static final int POEM_FIGURES = 7;

    private int order;
    private int lines;
    private final int[] sizes; // of each line, how many words it has
    private final int[][] words; // of each line, its words as numbers
    private final int[][] marks; // of each word, a bit for each marked place
    private final int[] worths; // the values of all words, while their pairs are counted
    private final int[][] fewest; // of each order and year, the fewest letters; -1 if none spell it
    private final boolean[] filled; // of each order, whether its row of fewest letters stands

    public AbjadPoems() {
        order = ROUND;
        lines = 0;
        sizes = new int[MOST_LINES];
        words = new int[MOST_LINES][MOST_WORDS];
        marks = new int[MOST_LINES][MOST_WORDS];
        worths = new int[MOST_LINES * MOST_WORDS];
        fewest = new int[ORDERS][LAST_YEAR + 1];
        filled = new boolean[ORDERS];
    }

    // ---- letters and words

    /** Sets the order by which all is counted from now on, and returns the order before. */
    public int count(int order) throws IndexOutOfBoundsException {
        if (order < 0 || order >= ORDERS) {
            throw new IndexOutOfBoundsException("no such order");
        }
        int before = this.order;
        this.order = order;
        return before;
    }

    /** Returns the value of a letter. */
    public int letter(int letter) throws IndexOutOfBoundsException {
        if (letter < 1 || letter > LETTERS) {
            throw new IndexOutOfBoundsException("no such letter");
        }
        return worthOfLetter(letter);
    }

    /** Returns the value of a word. */
    public int value(int word) throws IllegalArgumentException {
        checkWord(word);
        return worthOfPlaces(word, ALL_PLACES);
    }

    /** Returns whether both words have the same letters, each as often. */
    public boolean alike(int a, int b) throws IllegalArgumentException {
        checkWord(a);
        checkWord(b);
        for (int letter = 1; letter <= LETTERS; letter++) {
            if (timesIn(a, letter) != timesIn(b, letter)) {
                return false;
            }
        }
        return true;
    }

    // ---- the poem

    /** Returns the number of a new line. */
    public int write() throws IllegalStateException {
        if (lines >= MOST_LINES) {
            throw new IllegalStateException("the poem is full");
        }
        lines++;
        return lines - 1;
    }

    /** Adds a word to the end of a line, and returns how many words the line has then. */
    public int add(int line, int word)
            throws IndexOutOfBoundsException, IllegalArgumentException, IllegalStateException {
        checkLine(line);
        checkWord(word);
        int size = sizes[line];
        if (size >= MOST_WORDS) {
            throw new IllegalStateException("the line is full");
        }
        words[line][size] = word;
        marks[line][size] = 0; // a word that was cut from here may have left its marks
        sizes[line] = size + 1;
        return size + 1;
    }

    /** Takes the last word of a line away, and returns it. */
    public int cut(int line) throws IndexOutOfBoundsException, IllegalStateException {
        checkLine(line);
        int last = sizes[line] - 1;
        if (last < 0) {
            throw new IllegalStateException("the line has no word");
        }
        sizes[line] = last;
        return words[line][last];
    }

    /** Marks a letter, or unmarks it, and returns whether it is marked then. */
    public boolean mark(int line, int word, int place) throws IndexOutOfBoundsException {
        checkWordOfLine(line, word);
        if (place < 0 || place >= lengthOf(words[line][word])) {
            throw new IndexOutOfBoundsException("no such place");
        }
        marks[line][word] ^= 1 << place;
        return isMarked(marks[line][word], place);
    }

    /** Returns a word (0), its letters (1), value (2), marked letters (3) or their value (4). */
    public int word(int line, int word, int what) throws IndexOutOfBoundsException {
        checkWordOfLine(line, word);
        checkWhat(what, FIGURES);
        return figureOfWord(line, word, what);
    }

    /** Returns a line's words (0), letters (1), value (2), marked letters (3) or their value (4). */
    public int line(int line, int what) throws IndexOutOfBoundsException {
        checkLine(line);
        checkWhat(what, FIGURES);
        return figureOfLine(line, what);
    }

    /**
     * Returns the poem's lines (0), words (1), letters (2), value (3), marked letters (4), the year
     * that these hide (5), or its pairs of words that come to the same (6).
     */
    public int told(int what) throws IndexOutOfBoundsException {
        checkWhat(what, POEM_FIGURES);
        if (what == 0) {
            return lines;
        }
        if (what == POEM_FIGURES - 1) {
            return pairsOfSameWorth();
        }
        return sumOverLines(what - 1);
    }

    // ---- years

    /** Returns 10 * the first word and the last one of the first run that comes to a year, or -1. */
    public int hidden(int line, int year) throws IndexOutOfBoundsException {
        checkLine(line);
        for (int first = 0; first < sizes[line]; first++) {
            int last = lastOfRun(line, first, year);
            if (last >= 0) {
                return 10 * first + last;
            }
        }
        return -1;
    }

    /** Returns how many runs of words come to a year, in all lines. */
    public int hides(int year) {
        int runs = 0;
        for (int line = 0; line < lines; line++) {
            for (int first = 0; first < sizes[line]; first++) {
                if (lastOfRun(line, first, year) >= 0) {
                    runs++;
                }
            }
        }
        return runs;
    }

    /** Returns the first letter that, added to a line once, has it come to a year, or -1. */
    public int lacks(int line, int year) throws IndexOutOfBoundsException {
        checkLine(line);
        int worth = figureOfLine(line, WORTH);
        for (int letter = 1; letter <= LETTERS; letter++) {
            if (worth + worthOfLetter(letter) == year) {
                return letter;
            }
        }
        return -1;
    }

    /** Returns the first line whose value is the nearest to a year, or -1. */
    public int nearest(int year) {
        int best = -1;
        long bestGap = 0;
        for (int line = 0; line < lines; line++) {
            // as a long: the gap to a year far below 0 is no int
            long gap = Math.abs((long) figureOfLine(line, WORTH) - year);
            if (best < 0 || gap < bestGap) {
                best = line;
                bestGap = gap;
            }
        }
        return best;
    }

    /** Returns with how few letters a year can be spelled, or -1. */
    public int letters(int year) throws IllegalArgumentException {
        checkYear(year);
        fillFewest();
        return fewest[order][year];
    }

    /** Returns the letter at a place of a year's spelling; 0 if there is none. */
    public int spell(int year, int place) throws IllegalArgumentException, IndexOutOfBoundsException {
        checkYear(year);
        if (place < 0) {
            throw new IndexOutOfBoundsException("no such place");
        }
        fillFewest();
        if (place >= fewest[order][year]) {
            return 0;
        }
        int left = year;
        for (int at = 0; at < place; at++) {
            left -= worthOfLetter(greatestFirst(left));
        }
        return greatestFirst(left);
    }

    /** Returns the mean value of all words; 0 if there are none. */
    public double mean() {
        int size = sumOverLines(SIZE);
        if (size == 0) {
            return 0;
        }
        return (double) sumOverLines(WORTH) / size;
    }

    /** Computes a checksum of the order and of all that is told. */
    public long digest() {
        long d = 1297;
        d = d * 31 + order;
        for (int what = 0; what < POEM_FIGURES; what++) {
            d = d * 31 + told(what);
        }
        for (int line = 0; line < lines; line++) {
            d = digestOfLine(d, line);
        }
        return d;
    }

    // ---- what the document rules out

    private void checkLine(int line) {
        if (line < 0 || line >= lines) {
            throw new IndexOutOfBoundsException("no such line");
        }
    }

    private void checkWordOfLine(int line, int word) {
        checkLine(line);
        if (word < 0 || word >= sizes[line]) {
            throw new IndexOutOfBoundsException("no such word");
        }
    }

    private static void checkWhat(int what, int figures) {
        if (what < 0 || what >= figures) {
            throw new IndexOutOfBoundsException("nothing such is told");
        }
    }

    private static void checkWord(int word) {
        if (!isWord(word)) {
            throw new IllegalArgumentException("no word");
        }
    }

    private static void checkYear(int year) {
        if (year < 1 || year > LAST_YEAR) {
            throw new IllegalArgumentException("no year that can be spelled");
        }
    }

    // ---- letters and their values

    private int worthOfLetter(int letter) {
        if (order == CROOKED) {
            return (letter * letter * 7) % 101 + 1;
        }
        if (order == PLAIN || letter <= 9) {
            return letter;
        }
        return letter <= 18 ? (letter - 9) * 10 : (letter - 18) * 100;
    }

    private static boolean isWord(int word) {
        if (word <= 0 || word >= BEHIND_THE_WORDS) {
            return false;
        }
        int rest = word;
        for (int place = 0; place < MOST_LETTERS && rest > 0; place++) {
            if (rest % BASE == 0) {
                return false;
            }
            rest /= BASE;
        }
        return true;
    }

    private static int lengthOf(int word) {
        int length = 0;
        int rest = word;
        while (length < MOST_LETTERS && rest > 0) {
            rest /= BASE;
            length++;
        }
        return length;
    }

    private static int timesIn(int word, int letter) {
        int times = 0;
        int rest = word;
        for (int place = 0; place < MOST_LETTERS; place++) {
            if (rest % BASE == letter) {
                times++;
            }
            rest /= BASE;
        }
        return times;
    }

    private static boolean isMarked(int places, int place) {
        return (places >> place & 1) == 1;
    }

    /** The values of a word's letters at some places, added. */
    private int worthOfPlaces(int word, int places) {
        int worth = 0;
        int rest = word;
        for (int place = lengthOf(word) - 1; place >= 0; place--) {
            if (isMarked(places, place)) {
                worth += worthOfLetter(rest % BASE);
            }
            rest /= BASE;
        }
        return worth;
    }

    // ---- figures of words, lines and the poem

    private int figureOfWord(int line, int word, int what) {
        switch (what) {
            case 0:
                return words[line][word];
            case 1:
                return lengthOf(words[line][word]);
            case WORTH:
                return worthOfPlaces(words[line][word], ALL_PLACES);
            case 3:
                return Integer.bitCount(marks[line][word]);
            default:
                return worthOfPlaces(words[line][word], marks[line][word]);
        }
    }

    private int figureOfLine(int line, int what) {
        if (what == SIZE) {
            return sizes[line];
        }
        int sum = 0;
        for (int word = 0; word < sizes[line]; word++) {
            sum += figureOfWord(line, word, what);
        }
        return sum;
    }

    private int sumOverLines(int what) {
        int sum = 0;
        for (int line = 0; line < lines; line++) {
            sum += figureOfLine(line, what);
        }
        return sum;
    }

    private int pairsOfSameWorth() {
        int seen = 0;
        int pairs = 0;
        for (int line = 0; line < lines; line++) {
            for (int word = 0; word < sizes[line]; word++) {
                int worth = worthOfPlaces(words[line][word], ALL_PLACES);
                pairs += timesAmongWorths(worth, seen);
                worths[seen] = worth;
                seen++;
            }
        }
        return pairs;
    }

    private int timesAmongWorths(int worth, int seen) {
        int times = 0;
        for (int i = 0; i < seen; i++) {
            if (worths[i] == worth) {
                times++;
            }
        }
        return times;
    }

    private long digestOfLine(long before, int line) {
        long d = before;
        for (int what = 0; what < FIGURES; what++) {
            d = d * 31 + figureOfLine(line, what);
        }
        for (int word = 0; word < sizes[line]; word++) {
            for (int what = 0; what < FIGURES; what++) {
                d = d * 31 + figureOfWord(line, word, what);
            }
        }
        return d;
    }

    // ---- runs and spellings

    /** The last word of the run from a first one that comes to a year, or -1. */
    private int lastOfRun(int line, int first, int year) {
        int sum = 0;
        for (int last = first; last < sizes[line]; last++) {
            sum += worthOfPlaces(words[line][last], ALL_PLACES);
            // every word is worth more than 0, so no longer run comes to the year again
            if (sum == year) {
                return last;
            }
        }
        return -1;
    }

    /** Fills the order's row of fewest letters when it is first asked for, as it never changes. */
    private void fillFewest() {
        if (filled[order]) {
            return;
        }
        fewest[order][0] = 0;
        for (int year = 1; year <= LAST_YEAR; year++) {
            fewest[order][year] = fewestBySmaller(year);
        }
        filled[order] = true;
    }

    private int fewestBySmaller(int year) {
        int best = -1;
        for (int letter = 1; letter <= LETTERS; letter++) {
            int rest = year - worthOfLetter(letter);
            if (rest >= 0 && fewest[order][rest] >= 0
                    && (best < 0 || fewest[order][rest] + 1 < best)) {
                best = fewest[order][rest] + 1;
            }
        }
        return best;
    }

    /** The greatest letter that leaves a year to be spelled with one letter less; 0 if none does. */
    private int greatestFirst(int year) {
        for (int letter = LETTERS; letter >= 1; letter--) {
            int rest = year - worthOfLetter(letter);
            if (rest >= 0 && fewest[order][rest] == fewest[order][year] - 1) {
                return letter;
            }
        }
        return 0;
    }
}
