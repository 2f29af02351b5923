import java.io.IOException;
import java.math.BigInteger;
import java.nio.charset.StandardCharsets;
import java.nio.file.Files;
import java.nio.file.Path;
import java.util.ArrayList;
import java.util.Arrays;
import java.util.HashMap;
import java.util.List;
import java.util.Map;
import java.util.TreeSet;

// A test for each sentence of the document that names a boundary: too small, too large, empty,
// full, a wrap-around, a refused call. Each test quotes its sentence, and the quotes are held
// against the document, so that none of its refusals stays without a test.
public final class SentencesTest {
    private static final int LONGEST = 387420488; // six letters 26
    private static final int MIN = Integer.MIN_VALUE;
    private static final int MAX = Integer.MAX_VALUE;
    private static final int TERMS = 0; // the number of what stands ahead of promise 1
    private static final int PROMISES = 20;
    private static final Class<?> INDEX = IndexOutOfBoundsException.class;
    private static final Class<?> ARGUMENT = IllegalArgumentException.class;
    private static final Class<?> STATE = IllegalStateException.class;

    private static final TreeSet<String> quoted = new TreeSet<>();
    private static String sentence = "";
    private static int wrong = 0;

    private interface Maker {
        AbjadPoems make();
    }

    private interface Call {
        Object on(AbjadPoems x);
    }

    public static void main(String[] args) throws IOException {
        calls512();
        lettersOfTerms();
        wordsOfTerms();
        poemOfTerms();
        valuesOfTerms();
        changesNothing();
        namedFirst();
        newObject();
        countReturns();
        countOfAll();
        countThrows();
        letterThrows();
        valueThrows();
        alikeLetters();
        alikeThrows();
        writeReturns();
        writeThrows();
        addReturns();
        addThrows();
        cutReturns();
        cutThrows();
        markReturns();
        markThrows();
        wordReturns();
        wordThrows();
        lineReturns();
        lineThrows();
        toldReturns();
        toldPairs();
        toldThrows();
        hiddenReturns();
        hiddenYears();
        hiddenThrows();
        hides();
        lacksReturns();
        lacksThrows();
        nearestReturns();
        nearestYears();
        lettersReturns();
        lettersThrows();
        spellBehindTheLast();
        spellGreatestFirst();
        spellThrows();
        mean();
        digestNumbers();
        digestWraps();
        holdQuotesAgainst(Files.readString(Path.of("../shared/DOC.md"), StandardCharsets.UTF_8));
        System.out.println(wrong == 0 ? "all sentences hold" : wrong + " answers are not as due");
        if (wrong != 0) {
            System.exit(1);
        }
    }

    // ---- helpers

    /** Tells which sentence of the document the answers that follow are due by. */
    private static void quote(int promise, String text) {
        sentence = promise + ": " + text;
        quoted.add(sentence);
    }

    private static void due(String call, Object got, Object want) {
        if (!want.equals(got)) {
            wrong++;
            System.out.println(sentence + "\n    " + call + " answered " + got + ", due is " + want);
        }
    }

    /** The answer of a call, or the class of the exception that it throws. */
    private static Object outcome(AbjadPoems x, Call call) {
        try {
            return call.on(x);
        } catch (RuntimeException e) {
            return e.getClass();
        }
    }

    /** Asks for the very class of the exception, and that the call changed nothing. */
    private static void refused(Maker maker, String name, Class<?> want, Call call) {
        AbjadPoems x = maker.make();
        due(name, outcome(x, call), want);
        due(name + ", and all that is told then,", everything(x), everything(maker.make()));
    }

    /** All that a poem tells, down to which places are marked: for this each mark is turned. */
    private static List<Object> everything(AbjadPoems x) {
        List<Object> all = new ArrayList<>();
        all.add(x.digest());
        int lines = x.told(0);
        for (int line = 0; line < lines; line++) {
            int size = x.line(line, 0);
            for (int word = 0; word < size; word++) {
                int number = x.word(line, word, 0);
                all.add(number);
                for (int place = 0; place < lengthOf(number); place++) {
                    all.add(x.mark(line, word, place));
                }
            }
            all.add("end of line");
        }
        all.add(x.count(2));
        all.add(x.letters(1446));
        all.add(x.spell(1446, 1));
        all.add(lines < 12 ? x.write() : "full");
        return all;
    }

    private static int lengthOf(int word) {
        return Integer.toString(word, 27).length();
    }

    private static int wordOf(int... letters) {
        int number = 0;
        for (int letter : letters) {
            number = number * 27 + letter;
        }
        return number;
    }

    /** A word of so many times one letter. */
    private static int times(int size, int letter) {
        int[] letters = new int[size];
        Arrays.fill(letters, letter);
        return wordOf(letters);
    }

    private static AbjadPoems poemOf(int[]... lines) {
        AbjadPoems x = new AbjadPoems();
        for (int[] words : lines) {
            int line = x.write();
            for (int word : words) {
                x.add(line, word);
            }
        }
        return x;
    }

    private static int[] words(int... words) {
        return words;
    }

    private static int[] ten(int word) {
        int[] words = new int[10];
        Arrays.fill(words, word);
        return words;
    }

    /** Twelve lines of ten times one word. */
    private static AbjadPoems fullOf(int word) {
        int[][] lines = new int[12][];
        Arrays.fill(lines, ten(word));
        return poemOf(lines);
    }

    private static AbjadPoems full() {
        return fullOf(1);
    }

    private static AbjadPoems empty() {
        return new AbjadPoems();
    }

    /** A full line, one of two words with marks at like letters, and an empty one; order 1. */
    private static AbjadPoems mixed() {
        AbjadPoems x = poemOf(ten(30), words(wordOf(7, 7, 7), 19), words());
        x.count(1);
        x.mark(1, 0, 1);
        x.mark(0, 9, 0);
        return x;
    }

    private static AbjadPoems emptyLine() {
        return poemOf(words());
    }

    /** Numbers that are no words: below all, above all, or with a digit 0 at any place. */
    private static List<Integer> noWords() {
        List<Integer> none = new ArrayList<>(List.of(0, -1, -26, -28, -LONGEST, MIN, MIN + 1,
            LONGEST + 1, LONGEST + 2, times(7, 1), MAX - 1, MAX));
        for (int size = 2; size <= 6; size++) {
            for (int place = 1; place < size; place++) {
                int[] letters = new int[size];
                Arrays.fill(letters, 26);
                letters[place] = 0;
                none.add(wordOf(letters));
            }
            int power = wordOf(1) * (int) Math.pow(27, size - 1);
            none.add(power);
            none.add(26 * power);
        }
        return none;
    }

    private static final int[] NO_LINES_OF_3 = {-1, 3, 4, 11, 12, MIN, MAX};

    // ---- what is said ahead of promise 1

    private static void calls512() {
        quote(TERMS, "An object is used for at most 512 calls after it has been made");
        AbjadPoems x = fullOf(LONGEST); // 12 + 120 calls
        for (int call = 132; call < 252; call++) {
            x.mark((call - 132) / 10, call % 10, 0);
        }
        for (int call = 252; call < 511; call++) {
            outcome(x, it -> it.write());
        }
        due("digest() as the 512th call", x.digest(), digestOfFull());
        AbjadPoems y = new AbjadPoems();
        y.write();
        for (int call = 1; call < 512; call += 2) {
            due("add as the call " + call, y.add(0, 5), 1);
            due("cut behind it", call < 511 ? y.cut(0) : 5, 5);
        }
        AbjadPoems z = poemOf(words(5));
        for (int call = 2; call < 512; call++) {
            due("mark as the call " + call, z.mark(0, 0, 0), call % 2 == 0);
        }
    }

    private static long digestOfFull() {
        List<Integer> numbers = new ArrayList<>(
            List.of(0, 12, 120, 720, 576000, 120, 96000, 7140));
        for (int line = 0; line < 12; line++) {
            numbers.addAll(List.of(10, 60, 48000, 10, 8000));
            for (int word = 0; word < 10; word++) {
                numbers.addAll(List.of(LONGEST, 6, 4800, 1, 800));
            }
        }
        return wrapped(numbers).longValue();
    }

    /** The checksum before anything wraps around; its lowest 64 bits are the digest. */
    private static BigInteger wrapped(List<Integer> numbers) {
        BigInteger d = BigInteger.valueOf(1297);
        for (int number : numbers) {
            d = d.multiply(BigInteger.valueOf(31)).add(BigInteger.valueOf(number));
        }
        return d;
    }

    private static void lettersOfTerms() {
        quote(TERMS, "Letters. They are 1 to 26.");
        for (int order = 0; order < 3; order++) {
            AbjadPoems x = new AbjadPoems();
            x.count(order);
            due("value of the word of the first letter", x.value(1), x.letter(1));
            due("value of the word of the last letter", x.value(26), x.letter(26));
            due("letter 0", outcome(x, it -> it.letter(0)), INDEX);
            due("letter 27", outcome(x, it -> it.letter(27)), INDEX);
        }
        quote(TERMS, "in the order 0 (round): 1 to 9 for the letters 1 to 9, 10, 20 and so on to 90"
            + " for 10 to 18, 100, 200 and so on to 800 for 19 to 26");
        dueLetters(0, new int[][] {{1, 1}, {2, 2}, {8, 8}, {9, 9}, {10, 10}, {11, 20}, {17, 80},
            {18, 90}, {19, 100}, {20, 200}, {25, 700}, {26, 800}});
        quote(TERMS, "in the order 1 (plain): the letter itself");
        dueLetters(1, new int[][] {{1, 1}, {9, 9}, {10, 10}, {18, 18}, {19, 19}, {26, 26}});
        quote(TERMS, "in the order 2 (crooked): (letter * letter * 7) % 101 + 1");
        dueLetters(2, new int[][] {{1, 8}, {2, 29}, {3, 64}, {4, 12}, {9, 63}, {13, 73}, {17, 4},
            {19, 3}, {12, 100}, {25, 33}, {26, 87}});
    }

    private static void dueLetters(int order, int[][] values) {
        AbjadPoems x = new AbjadPoems();
        x.count(order);
        for (int[] pair : values) {
            due("letter(" + pair[0] + ")", x.letter(pair[0]), pair[1]);
        }
    }

    private static void wordsOfTerms() {
        quote(TERMS, "A word has 1 to 6 letters, and is told as a number: its letters as the digits"
            + " of a number of the base 27, the first one as the highest digit (so none of its"
            + " digits is 0).");
        AbjadPoems x = poemOf(words(), words());
        for (int size = 1; size <= 6; size++) {
            due("the least of " + size, x.add(0, times(size, 1)), size);
            due("its letters", x.word(0, size - 1, 1), size);
            due("its value", x.value(times(size, 1)), size);
            due("the greatest of " + size, x.add(1, times(size, 26)), size);
            due("its letters", x.word(1, size - 1, 1), size);
            due("its value", x.value(times(size, 26)), 800 * size);
        }
        due("all letters", x.told(2), 42);
        due("the longest word", times(6, 26), LONGEST);
        AbjadPoems y = poemOf(words(wordOf(1, 2, 3, 4, 5, 6)));
        for (int place = 0; place < 6; place++) {
            y.mark(0, 0, place);
            due("the letter at " + place + ", the first one highest", y.word(0, 0, 4), place + 1);
            y.mark(0, 0, place);
        }
        for (int start = -1000; start <= 60000; start += 500) {
            dueWordsFrom(start);
        }
        dueWordsFrom(LONGEST - 250);
        dueWordsFrom(times(7, 1) - 250);
    }

    /** Asks of 500 numbers, one behind the other, whether they are words. */
    private static void dueWordsFrom(int start) {
        AbjadPoems x = new AbjadPoems();
        for (int number = start; number < start + 500; number++) {
            int it = number;
            String digits = Integer.toString(number, 27);
            boolean word = number > 0 && digits.length() <= 6 && digits.indexOf('0') < 0;
            due("whether " + number + " is a word",
                !ARGUMENT.equals(outcome(x, poem -> poem.value(it))), word);
        }
    }

    private static void poemOfTerms() {
        quote(TERMS, "It has at most 12 lines, numbered from 0 in the order of their writing, each"
            + " with at most 10 words, numbered likewise");
        AbjadPoems x = new AbjadPoems();
        for (int line = 0; line < 12; line++) {
            due("line", x.write(), line);
            for (int word = 0; word < 10; word++) {
                due("word", x.add(line, 1 + line + word), word + 1);
            }
        }
        for (int line = 0; line < 12; line++) {
            due("a word of line " + line, x.word(line, 9, 0), line + 10);
            due("its first word", x.word(line, 0, 0), line + 1);
        }
        due("a thirteenth line", outcome(x, it -> it.write()), STATE);
        due("an eleventh word", outcome(x, it -> it.add(11, 1)), STATE);
        quote(TERMS, "each letter of a word is marked, or not (not, at first)");
        AbjadPoems y = poemOf(words(LONGEST));
        due("marked at first", y.word(0, 0, 3), 0);
        for (int place = 0; place < 6; place++) {
            due("mark at " + place, y.mark(0, 0, place), true);
            due("marked then", y.word(0, 0, 3), place + 1);
        }
        y.cut(0);
        y.add(0, LONGEST);
        due("marked at first where a marked word was cut", y.word(0, 0, 3), 0);
        due("the value of these", y.word(0, 0, 4), 0);
    }

    private static void valuesOfTerms() {
        quote(TERMS, "The value of a word is that of its letters, added; of a line that of its"
            + " words, added; of the poem that of its lines, added.");
        AbjadPoems x = fullOf(LONGEST);
        due("the greatest word", x.word(11, 9, 2), 4800);
        due("the greatest line", x.line(11, 2), 48000);
        due("the greatest poem", x.told(3), 576000);
        x.count(1);
        due("the greatest plain poem", x.told(3), 18720);
        AbjadPoems y = poemOf(words(), words(3, 28), words());
        due("an empty line", y.line(0, 2), 0);
        due("a line", y.line(1, 2), 5);
        due("a poem with empty lines", y.told(3), 5);
        due("an empty poem", empty().told(3), 0);
    }

    private static void changesNothing() {
        quote(TERMS, "A method that throws an exception changes nothing.");
        Maker mixed = () -> mixed();
        refused(mixed, "count(3)", INDEX, x -> x.count(3));
        refused(mixed, "letter(0)", INDEX, x -> x.letter(0));
        refused(mixed, "value(27)", ARGUMENT, x -> x.value(27));
        refused(mixed, "alike(1, 27)", ARGUMENT, x -> x.alike(1, 27));
        refused(() -> full(), "write()", STATE, x -> x.write());
        refused(mixed, "add(3, 1)", INDEX, x -> x.add(3, 1));
        refused(mixed, "add(1, 27)", ARGUMENT, x -> x.add(1, 27));
        refused(mixed, "add(0, 1)", STATE, x -> x.add(0, 1));
        refused(mixed, "cut(3)", INDEX, x -> x.cut(3));
        refused(mixed, "cut(2)", STATE, x -> x.cut(2));
        refused(mixed, "mark(1, 0, 3)", INDEX, x -> x.mark(1, 0, 3));
        refused(mixed, "word(1, 2, 0)", INDEX, x -> x.word(1, 2, 0));
        refused(mixed, "line(1, 5)", INDEX, x -> x.line(1, 5));
        refused(mixed, "told(7)", INDEX, x -> x.told(7));
        refused(mixed, "hidden(3, 3)", INDEX, x -> x.hidden(3, 3));
        refused(mixed, "lacks(3, 3)", INDEX, x -> x.lacks(3, 3));
        refused(mixed, "letters(3001)", ARGUMENT, x -> x.letters(3001));
        refused(mixed, "spell(3001, 0)", ARGUMENT, x -> x.spell(3001, 0));
        refused(mixed, "spell(7, -1)", INDEX, x -> x.spell(7, -1));
        AbjadPoems x = mixed();
        due("an eleventh word", outcome(x, it -> it.add(0, 5)), STATE);
        due("the word cut behind it", x.cut(0), 30);
        due("words then", x.line(0, 0), 9);
        due("a tenth word", x.add(0, 5), 10);
        due("its marks", x.word(0, 9, 3), 0);
    }

    private static void namedFirst() {
        quote(TERMS, "If several exceptions apply, the one that is named first is thrown.");
        Maker fullPoem = () -> full();
        for (int line : new int[] {-1, 12, MIN, MAX}) {
            refused(fullPoem, "no line " + line + ", no word", INDEX, x -> x.add(line, 0));
            refused(() -> empty(), "no line " + line + " of none", INDEX, x -> x.add(line, -1));
            refused(() -> empty(), "no line to cut", INDEX, x -> x.cut(line));
        }
        for (int word : noWords()) {
            refused(fullPoem, "no word " + word + ", a full line", ARGUMENT, x -> x.add(11, word));
        }
        for (int year : new int[] {0, 3001, -1, MIN, MAX}) {
            for (int place : new int[] {-1, MIN}) {
                refused(() -> mixed(), "no year " + year + ", no place", ARGUMENT,
                    x -> x.spell(year, place));
            }
        }
    }

    // ---- letters and words

    private static void newObject() {
        quote(1, "Creates a poem without lines, in the order 0.");
        AbjadPoems x = new AbjadPoems();
        for (int what = 0; what <= 6; what++) {
            due("told(" + what + ")", x.told(what), 0);
        }
        due("mean()", x.mean(), 0.0);
        due("nearest(0)", x.nearest(0), -1);
        due("hides(0)", x.hides(0), 0);
        due("letter(19)", x.letter(19), 100);
        due("letters(800)", x.letters(800), 1);
        due("count(0)", x.count(0), 0);
        Maker empty = () -> empty();
        refused(empty, "add(0, 1)", INDEX, it -> it.add(0, 1));
        refused(empty, "cut(0)", INDEX, it -> it.cut(0));
        refused(empty, "mark(0, 0, 0)", INDEX, it -> it.mark(0, 0, 0));
        refused(empty, "word(0, 0, 0)", INDEX, it -> it.word(0, 0, 0));
        refused(empty, "line(0, 0)", INDEX, it -> it.line(0, 0));
        refused(empty, "hidden(0, 1)", INDEX, it -> it.hidden(0, 1));
        refused(empty, "lacks(0, 1)", INDEX, it -> it.lacks(0, 1));
        AbjadPoems full = full();
        full.count(2);
        AbjadPoems next = new AbjadPoems();
        due("the lines of an object made behind a full one", next.told(0), 0);
        due("its order", next.count(1), 0);
        due("the full one's order", full.count(0), 2);
    }

    private static void countReturns() {
        quote(2, "Returns the order before.");
        AbjadPoems x = new AbjadPoems();
        int[] orders = {0, 0, 2, 2, 1, 1, 0, 1, 2, 0};
        int before = 0;
        for (int order : orders) {
            due("count(" + order + ")", x.count(order), before);
            before = order;
        }
    }

    private static void countOfAll() {
        quote(2, "`order`: the order by which all is counted from now on");
        dueCounted(0, 100, 9, 2, 19);
        dueCounted(1, 19, 9, 4, 26);
        dueCounted(2, 3, 63, 2, 25);
    }

    /**
     * Asks each counting method in an order, by the values of the letters 19 and 9, the fewest
     * letters of the year 101, and the first of them.
     */
    private static void dueCounted(int order, int v19, int v9, int letters, int first) {
        AbjadPoems x = poemOf(words(19, wordOf(9, 19)), words(9));
        x.mark(0, 1, 1);
        due("told(3) in the order 0", x.told(3), 218);
        due("letters(101) in the order 0", x.letters(101), 2);
        x.count(order);
        int both = v9 + v19;
        int all = both + v19;
        due("letter(19)", x.letter(19), v19);
        due("value", x.value(wordOf(9, 19)), both);
        due("word(0, 1, 2)", x.word(0, 1, 2), both);
        due("word(0, 1, 4)", x.word(0, 1, 4), v19);
        due("line(0, 2)", x.line(0, 2), all);
        due("line(0, 4)", x.line(0, 4), v19);
        due("told(3)", x.told(3), all + v9);
        due("told(5)", x.told(5), v19);
        due("hidden", x.hidden(0, all), 1);
        due("hides", x.hides(both), 1);
        due("lacks", x.lacks(0, all + x.letter(10)), 10);
        due("nearest", x.nearest(v9), 1);
        due("mean()", x.mean(), (all + v9) / 3.0);
        due("letters(101)", x.letters(101), letters);
        due("spell(101, 0)", x.spell(101, 0), first);
        due("digest()", x.digest(), wrapped(List.of(order, 2, 3, 4, all + v9, 1, v19, 0,
            2, 3, all, 1, v19, 19, 1, v19, 0, 0, wordOf(9, 19), 2, both, 1, v19,
            1, 1, v9, 0, 0, 9, 1, v9, 0, 0)).longValue());
    }

    private static void countThrows() {
        quote(2, "Throws `IndexOutOfBoundsException` if order is not 0 to 2");
        for (int order = 0; order < 3; order++) {
            int now = order;
            for (int wrongOrder : new int[] {-1, 3, MIN, MAX}) {
                refused(() -> inOrder(now), "count(" + wrongOrder + ") in the order " + now, INDEX,
                    x -> x.count(wrongOrder));
            }
            due("count(2) in the order " + now, inOrder(now).count(2), now);
            due("count(0) in the order " + now, inOrder(now).count(0), now);
        }
    }

    private static AbjadPoems inOrder(int order) {
        AbjadPoems x = poemOf(words(30, 19), words(), words(wordOf(1, 1)));
        x.mark(2, 0, 1);
        x.count(order);
        return x;
    }

    private static void letterThrows() {
        quote(3, "Throws `IndexOutOfBoundsException` if letter is not 1 to 26");
        for (int order = 0; order < 3; order++) {
            int now = order;
            for (int letter : new int[] {0, 27, -1, 28, 53, MIN, MAX}) {
                refused(() -> inOrder(now), "letter(" + letter + ") in the order " + now, INDEX,
                    x -> x.letter(letter));
            }
            due("letter(1)", inOrder(now).letter(1), now == 2 ? 8 : 1);
            due("letter(26)", inOrder(now).letter(26), now == 0 ? 800 : now == 1 ? 26 : 87);
        }
    }

    private static void valueThrows() {
        quote(4, "Throws `IllegalArgumentException` if it is none");
        for (int word : noWords()) {
            refused(() -> mixed(), "value(" + word + ")", ARGUMENT, x -> x.value(word));
        }
        AbjadPoems x = new AbjadPoems();
        due("the least word", x.value(1), 1);
        due("the greatest word", x.value(LONGEST), 4800);
        due("the word behind 27", x.value(28), 2);
        due("the word ahead of 27", x.value(26), 800);
    }

    private static void alikeLetters() {
        quote(5, "Returns whether both have the same letters, each as often.");
        AbjadPoems x = new AbjadPoems();
        due("the least word twice", x.alike(1, 1), true);
        due("the greatest word twice", x.alike(LONGEST, LONGEST), true);
        due("the least and the greatest", x.alike(1, LONGEST), false);
        due("the last letter five and six times", x.alike(times(5, 26), LONGEST), false);
        due("the first letter five and six times", x.alike(times(6, 1), times(5, 1)), false);
        due("each letter, one oftener", x.alike(wordOf(1, 26, 26), wordOf(1, 1, 26)), false);
        due("the same value", x.alike(wordOf(1, 4), wordOf(2, 3)), false);
        for (int turn = 1; turn < 6; turn++) {
            int[] turned = {1, 1, 5, 25, 26, 26};
            int first = turned[0];
            turned[0] = turned[turn];
            turned[turn] = first;
            due("two places turned", x.alike(wordOf(1, 1, 5, 25, 26, 26), wordOf(turned)), true);
        }
        for (int letter = 1; letter <= 26; letter++) {
            int other = letter % 26 + 1;
            due("letter " + letter + " alone", x.alike(letter, letter), true);
            due("letter " + letter + " and the next", x.alike(letter, other), false);
            due("letter " + letter + " turned",
                x.alike(wordOf(letter, other), wordOf(other, letter)), true);
        }
    }

    private static void alikeThrows() {
        quote(5, "Throws `IllegalArgumentException` if one of them is none");
        for (int word : noWords()) {
            refused(() -> mixed(), "alike(" + word + ", 1)", ARGUMENT, x -> x.alike(word, 1));
            refused(() -> mixed(), "alike(1, " + word + ")", ARGUMENT, x -> x.alike(1, word));
            refused(() -> mixed(), "alike twice " + word, ARGUMENT, x -> x.alike(word, word));
        }
    }

    // ---- the poem

    private static void writeReturns() {
        quote(6, "Returns the number of a new line.");
        AbjadPoems x = new AbjadPoems();
        for (int line = 0; line < 12; line++) {
            due("write()", x.write(), line);
            due("the words of the new line", x.line(line, 0), 0);
            due("a word of it", outcome(x, it -> it.word(it.told(0) - 1, 0, 0)), INDEX);
            x.add(line, 5);
        }
    }

    private static void writeThrows() {
        quote(6, "Throws `IllegalStateException` if there are 12");
        refused(() -> full(), "write() to full lines", STATE, x -> x.write());
        refused(() -> poemOf(new int[12][0]), "write() to empty lines", STATE, x -> x.write());
        AbjadPoems x = poemOf(new int[11][0]);
        due("a twelfth line", x.write(), 11);
        for (int again = 0; again < 3; again++) {
            due("a thirteenth line", outcome(x, it -> it.write()), STATE);
        }
        due("lines then", x.told(0), 12);
        due("a word to the twelfth", x.add(11, 1), 1);
        due("a word to a thirteenth", outcome(x, it -> it.add(12, 1)), INDEX);
        x.cut(11);
        due("a thirteenth line behind a cut", outcome(x, it -> it.write()), STATE);
    }

    private static void addReturns() {
        quote(7, "Returns how many words it has then.");
        AbjadPoems x = poemOf(words(), words());
        for (int word = 0; word < 10; word++) {
            due("add(0, ..)", x.add(0, 30 + word % 20), word + 1);
            due("the other line", x.line(1, 0), 0);
        }
        due("add(1, ..)", x.add(1, LONGEST), 1);
        for (int word = 0; word < 10; word++) {
            due("the words, each at the end when added", x.word(0, word, 0), 30 + word % 20);
        }
        x.cut(0);
        x.cut(0);
        due("add behind cuts", x.add(0, 5), 9);
        due("add behind cuts", x.add(0, 6), 10);
        due("the word added last", x.word(0, 9, 0), 6);
        due("the word added ahead of it", x.word(0, 8, 0), 5);
    }

    private static void addThrows() {
        quote(7, "Throws `IndexOutOfBoundsException` if there is no such line");
        for (int line : NO_LINES_OF_3) {
            refused(() -> mixed(), "add(" + line + ", 1)", INDEX, x -> x.add(line, 1));
        }
        refused(() -> full(), "add(12, 1)", INDEX, x -> x.add(12, 1));
        due("the last line", mixed().add(2, 1), 1);
        quote(7, "Throws `IllegalArgumentException` if it is none");
        for (int word : noWords()) {
            refused(() -> mixed(), "add(2, " + word + ")", ARGUMENT, x -> x.add(2, word));
        }
        quote(7, "Throws `IllegalStateException` if the line has 10");
        for (int line = 0; line < 12; line++) {
            int at = line;
            refused(() -> full(), "add(" + line + ", 1)", STATE, x -> x.add(at, 1));
        }
        AbjadPoems x = poemOf(ten(30));
        due("an eleventh word", outcome(x, it -> it.add(0, LONGEST)), STATE);
        due("the tenth word", x.cut(0), 30);
        due("a tenth word again", x.add(0, 31), 10);
        due("an eleventh word again", outcome(x, it -> it.add(0, 32)), STATE);
        due("the tenth word", x.word(0, 9, 0), 31);
    }

    private static void cutReturns() {
        quote(8, "Takes the last word of a line away.");
        AbjadPoems x = poemOf(words(1, 2, 3, 4, 5, 6, 7, 8, 9, 10), words(LONGEST));
        for (int word = 10; word >= 1; word--) {
            due("cut(0)", x.cut(0), word);
            due("words then", x.line(0, 0), word - 1);
            int behind = word - 1;
            due("the word cut", outcome(x, it -> it.word(0, behind, 0)), INDEX);
            due("a mark on it", outcome(x, it -> it.mark(0, behind, 0)), INDEX);
        }
        due("an emptied line's letters", x.line(0, 1), 0);
        due("an emptied line's value", x.line(0, 2), 0);
        due("lines then", x.told(0), 2);
        due("the other line", x.cut(1), LONGEST);
        due("words of the poem", x.told(1), 0);
        AbjadPoems y = poemOf(words(30, 30));
        y.mark(0, 0, 0);
        y.mark(0, 1, 0);
        y.mark(0, 1, 1);
        due("cut of a marked word", y.cut(0), 30);
        due("marked letters then", y.told(4), 1);
        due("their value", y.told(5), 1);
        y.add(0, 30);
        due("marked letters of the word there", y.word(0, 1, 3), 0);
        due("a mark on it", y.mark(0, 1, 1), true);
    }

    private static void cutThrows() {
        quote(8, "Throws `IndexOutOfBoundsException` if there is no such line");
        for (int line : NO_LINES_OF_3) {
            refused(() -> mixed(), "cut(" + line + ")", INDEX, x -> x.cut(line));
        }
        refused(() -> full(), "cut(12)", INDEX, x -> x.cut(12));
        due("the last line of a full poem", full().cut(11), 1);
        quote(8, "Throws `IllegalStateException` if it has none");
        refused(() -> mixed(), "cut(2)", STATE, x -> x.cut(2));
        refused(() -> emptyLine(), "cut(0)", STATE, x -> x.cut(0));
        AbjadPoems x = poemOf(words(7));
        x.cut(0);
        due("cut of an emptied line", outcome(x, it -> it.cut(0)), STATE);
        due("add to it", x.add(0, 8), 1);
        due("cut of it", x.cut(0), 8);
    }

    private static void markReturns() {
        quote(9, "Marks a letter, or unmarks it, if it is marked.");
        AbjadPoems x = poemOf(words(wordOf(26, 25, 24, 23, 22, 21), 5));
        for (int place = 0; place < 6; place++) {
            due("mark", x.mark(0, 0, place), true);
            due("its value", x.word(0, 0, 4), 800 - 100 * place);
            due("unmark", x.mark(0, 0, place), false);
            due("no value", x.word(0, 0, 4), 0);
        }
        for (int place = 0; place < 6; place++) {
            due("mark of all", x.mark(0, 0, place), true);
        }
        due("all marked", x.word(0, 0, 3), 6);
        due("their value", x.word(0, 0, 4), 3300);
        due("the other word's", x.word(0, 1, 3), 0);
        due("unmark of one", x.mark(0, 0, 3), false);
        due("the others", x.word(0, 0, 4), 2800);
        AbjadPoems full = fullOf(LONGEST);
        due("the last place of all", full.mark(11, 9, 5), true);
        due("the first place of all", full.mark(0, 0, 0), true);
        due("marked letters", full.told(4), 2);
    }

    private static void markThrows() {
        quote(9, "Throws `IndexOutOfBoundsException` if there is no such line, word or place");
        for (int line : NO_LINES_OF_3) {
            refused(() -> mixed(), "mark(" + line + ", 0, 0)", INDEX, x -> x.mark(line, 0, 0));
        }
        for (int word : new int[] {-1, 2, 3, 9, 10, MIN, MAX}) {
            refused(() -> mixed(), "mark(1, " + word + ", 0)", INDEX, x -> x.mark(1, word, 0));
        }
        refused(() -> mixed(), "the eleventh word", INDEX, x -> x.mark(0, 10, 0));
        refused(() -> mixed(), "a word of an empty line", INDEX, x -> x.mark(2, 0, 0));
        refused(() -> full(), "a thirteenth line", INDEX, x -> x.mark(12, 0, 0));
        for (int size = 1; size <= 6; size++) {
            int word = times(size, 26);
            for (int place : new int[] {-1, size, size + 1, 6, 31, 32, 63, 64, MIN, MAX}) {
                refused(() -> poemOf(words(word)), "place " + place + " of " + size, INDEX,
                    x -> x.mark(0, 0, place));
            }
            int last = size - 1;
            due("the last of " + size, poemOf(words(word)).mark(0, 0, last), true);
        }
    }

    private static void wordReturns() {
        quote(10, "`what`: 0 the word, as a number, 1 its letters, 2 its value, 3 its marked"
            + " letters, 4 the value of these");
        AbjadPoems x = poemOf(words(1, LONGEST));
        dueFigures("the least word", wordFigures(x, 0), 1, 1, 1, 0, 0);
        dueFigures("the greatest word", wordFigures(x, 1), LONGEST, 6, 4800, 0, 0);
        x.mark(0, 0, 0);
        for (int place = 0; place < 6; place++) {
            x.mark(0, 1, place);
        }
        dueFigures("the least word, marked", wordFigures(x, 0), 1, 1, 1, 1, 1);
        dueFigures("the greatest word, marked", wordFigures(x, 1), LONGEST, 6, 4800, 6, 4800);
    }

    private static int[] wordFigures(AbjadPoems x, int word) {
        int[] figures = new int[5];
        for (int what = 0; what < 5; what++) {
            figures[what] = x.word(0, word, what);
        }
        return figures;
    }

    private static void dueFigures(String name, int[] got, int... want) {
        due(name, Arrays.toString(got), Arrays.toString(want));
    }

    private static void wordThrows() {
        quote(10, "Throws `IndexOutOfBoundsException` if there is no such line or word, or what is"
            + " not 0 to 4");
        for (int line : NO_LINES_OF_3) {
            refused(() -> mixed(), "word(" + line + ", 0, 0)", INDEX, x -> x.word(line, 0, 0));
        }
        for (int word : new int[] {-1, 2, 3, 9, 10, MIN, MAX}) {
            refused(() -> mixed(), "word(1, " + word + ", 0)", INDEX, x -> x.word(1, word, 0));
        }
        for (int what : new int[] {-1, 5, 6, MIN, MAX}) {
            refused(() -> mixed(), "word(1, 1, " + what + ")", INDEX, x -> x.word(1, 1, what));
        }
        refused(() -> mixed(), "the eleventh word", INDEX, x -> x.word(0, 10, 0));
        refused(() -> mixed(), "a word of an empty line", INDEX, x -> x.word(2, 0, 0));
        refused(() -> full(), "a thirteenth line", INDEX, x -> x.word(12, 0, 0));
        due("the last word of a full poem", full().word(11, 9, 4), 0);
    }

    private static void lineReturns() {
        quote(11, "`what`: 0 its words, 1 its letters, 2 its value, 3 its marked letters, 4 the"
            + " value of these");
        AbjadPoems x = poemOf(words(), ten(LONGEST));
        dueFigures("an empty line", lineFigures(x, 0), 0, 0, 0, 0, 0);
        dueFigures("a full line", lineFigures(x, 1), 10, 60, 48000, 0, 0);
        for (int at = 0; at < 60; at++) {
            x.mark(1, at / 6, at % 6);
        }
        dueFigures("an empty line ahead of marks", lineFigures(x, 0), 0, 0, 0, 0, 0);
        dueFigures("a full line, marked", lineFigures(x, 1), 10, 60, 48000, 60, 48000);
        for (int at = 0; at < 10; at++) {
            x.cut(1);
        }
        dueFigures("an emptied line", lineFigures(x, 1), 0, 0, 0, 0, 0);
    }

    private static int[] lineFigures(AbjadPoems x, int line) {
        int[] figures = new int[5];
        for (int what = 0; what < 5; what++) {
            figures[what] = x.line(line, what);
        }
        return figures;
    }

    private static void lineThrows() {
        quote(11, "Throws `IndexOutOfBoundsException` if there is no such line, or what is not 0"
            + " to 4");
        for (int line : NO_LINES_OF_3) {
            refused(() -> mixed(), "line(" + line + ", 0)", INDEX, x -> x.line(line, 0));
        }
        for (int what : new int[] {-1, 5, 6, MIN, MAX}) {
            refused(() -> mixed(), "line(1, " + what + ")", INDEX, x -> x.line(1, what));
            refused(() -> mixed(), "line(2, " + what + ")", INDEX, x -> x.line(2, what));
        }
        refused(() -> full(), "line(12, 0)", INDEX, x -> x.line(12, 0));
        due("the last line of a full poem", full().line(11, 0), 10);
    }

    private static void toldReturns() {
        quote(12, "`what`: 0 lines, 1 words, 2 letters, 3 the value of the poem, 4 marked letters,"
            + " 5 the year that these hide: their values, added, 6 pairs of words of the poem, at"
            + " two places, that come to the same");
        dueFigures("an empty poem", poemFigures(empty()), 0, 0, 0, 0, 0, 0, 0);
        dueFigures("an empty line", poemFigures(emptyLine()), 1, 0, 0, 0, 0, 0, 0);
        dueFigures("one word", poemFigures(poemOf(words(30))), 1, 1, 2, 4, 0, 0, 0);
        AbjadPoems full = fullOf(LONGEST);
        for (int at = 0; at < 120; at++) {
            full.mark(at / 10, at % 10, at % 6);
        }
        dueFigures("a full poem", poemFigures(full), 12, 120, 720, 576000, 120, 96000, 7140);
        for (int at = 0; at < 120; at++) {
            full.cut(at / 10);
        }
        dueFigures("an emptied poem", poemFigures(full), 12, 0, 0, 0, 0, 0, 0);
        AbjadPoems twelve = fullOf(1);
        twelve.mark(11, 9, 0);
        due("the last letter of all, marked", twelve.told(4), 1);
        due("the year that it hides", twelve.told(5), 1);
    }

    private static int[] poemFigures(AbjadPoems x) {
        int[] figures = new int[7];
        for (int what = 0; what < 7; what++) {
            figures[what] = x.told(what);
        }
        return figures;
    }

    private static void toldPairs() {
        due("no word", empty().told(6), 0);
        due("one word", poemOf(words(30)).told(6), 0);
        due("two words", poemOf(words(30, 56)).told(6), 1);
        due("two words of two lines", poemOf(words(30), words(), words(56)).told(6), 1);
        due("two words that differ", poemOf(words(30), words(31)).told(6), 0);
        due("three words", poemOf(words(30, 30), words(30)).told(6), 3);
        AbjadPoems full = poemOf(new int[12][0]);
        full.count(1);
        Map<Integer, Integer> seen = new HashMap<>();
        int pairs = 0;
        for (int at = 0; at < 120; at++) {
            int first = 1 + at % 26;
            int second = 1 + at % 7;
            full.add(at / 10, wordOf(first, second));
            pairs += seen.merge(first + second, 1, Integer::sum) - 1;
        }
        due("a full poem of several values", full.told(6), pairs);
    }

    private static void toldThrows() {
        quote(12, "Throws `IndexOutOfBoundsException` if what is not 0 to 6");
        for (int what : new int[] {-1, 7, 8, MIN, MAX}) {
            refused(() -> mixed(), "told(" + what + ")", INDEX, x -> x.told(what));
            refused(() -> empty(), "told(" + what + ") of an empty poem", INDEX,
                x -> x.told(what));
            refused(() -> full(), "told(" + what + ") of a full poem", INDEX, x -> x.told(what));
        }
    }

    // ---- years

    private static void hiddenReturns() {
        quote(13, "Returns 10 * the first word of it and the last one, added; of several the one"
            + " with the smallest first word, then the smallest last one; -1 if there is none.");
        AbjadPoems x = poemOf(words(), ten(LONGEST), words(1, 2, 3, 30, 3, 1));
        for (int size = 1; size <= 10; size++) {
            due("a run of " + size + " words", x.hidden(1, 4800 * size), size - 1);
        }
        due("more than a full line", x.hidden(1, 48001), -1);
        due("less than a full line", x.hidden(1, 47999), -1);
        due("one word more than there is", x.hidden(1, 52800), -1);
        due("in an empty line", x.hidden(0, 4800), -1);
        due("the smallest first word", x.hidden(2, 3), 1);
        due("the smallest first word of single ones", x.hidden(2, 4), 33);
        due("the last word", poemOf(words(2, 3, 1)).hidden(0, 1), 22);
        due("up to the last word", x.hidden(2, 8), 35);
        due("words that are apart", poemOf(words(1, 9, 2)).hidden(0, 3), -1);
        x.cut(2);
        due("a run with a word cut", x.hidden(2, 8), -1);
        AbjadPoems y = poemOf(words(1, 1, 1, 1, 1, 1, 1, 1, 1, 2));
        due("the tenth word", y.hidden(0, 2), 1);
        due("ten words", y.hidden(0, 11), 9);
        due("nine words to the tenth", y.hidden(0, 10), 19);
        y.cut(0);
        y.add(0, 26);
        due("the tenth word alone", y.hidden(0, 800), 99);
        due("a run of two at the end", y.hidden(0, 801), 89);
        due("the tenth word of a line ahead", y.hidden(0, 1), 0);
    }

    private static void hiddenYears() {
        quote(13, "Looks for a run of words of a line, one behind the other, that come to a year.");
        AbjadPoems x = poemOf(words(), ten(LONGEST), words(1, 2));
        for (int year : new int[] {0, -1, -3, -48000, MIN, MIN + 1, MAX - 1, MAX}) {
            for (int line = 0; line < 3; line++) {
                due("hidden(" + line + ", " + year + ")", x.hidden(line, year), -1);
            }
        }
        due("across two lines", poemOf(words(1), words(2)).hidden(0, 3), -1);
    }

    private static void hiddenThrows() {
        quote(13, "Throws `IndexOutOfBoundsException` if there is no such line");
        for (int line : NO_LINES_OF_3) {
            refused(() -> mixed(), "hidden(" + line + ", 3)", INDEX, x -> x.hidden(line, 3));
            refused(() -> mixed(), "hidden(" + line + ", 0)", INDEX, x -> x.hidden(line, 0));
        }
        refused(() -> full(), "hidden(12, 1)", INDEX, x -> x.hidden(12, 1));
        due("the last line of a full poem", full().hidden(11, 10), 9);
    }

    private static void hides() {
        quote(14, "Returns how many such runs there are in all lines.");
        AbjadPoems full = fullOf(LONGEST);
        for (int size = 0; size <= 11; size++) {
            int runs = size == 0 || size == 11 ? 0 : 12 * (11 - size);
            due("runs of " + size + " in a full poem", full.hides(4800 * size), runs);
        }
        AbjadPoems x = poemOf(words(), words(1, 2), words(), words(3, 1));
        for (int year : new int[] {0, -1, -3, MIN, MIN + 1, MAX - 1, MAX}) {
            due("hides(" + year + ")", x.hides(year), 0);
            due("hides(" + year + ") of an empty poem", empty().hides(year), 0);
            due("hides(" + year + ") of a full poem", full.hides(year), 0);
        }
        due("runs of several lines", x.hides(3), 2);
        due("runs across lines", x.hides(5), 0);
        due("runs of single words", x.hides(1), 2);
        x.cut(3);
        due("runs when a word is cut", x.hides(1), 1);
        due("a word at the end of two runs", poemOf(words(1, 1, 1)).hides(2), 2);
    }

    private static void lacksReturns() {
        quote(15, "Returns the letter that, added to the line once, has it come to the year, the"
            + " first one of several; -1 if there is none.");
        AbjadPoems x = poemOf(words(), ten(LONGEST), words(2, 3));
        int[] worths = {0, 48000, 5};
        for (int line = 0; line < 3; line++) {
            int worth = worths[line];
            due("all that it lacks", x.lacks(line, worth + 1), 1);
            due("the greatest that it can lack", x.lacks(line, worth + 800), 26);
            due("a letter of tens", x.lacks(line, worth + 90), 18);
            due("nothing is lacking", x.lacks(line, worth), -1);
            due("too much by one", x.lacks(line, worth - 1), -1);
            due("too much by a letter", x.lacks(line, worth - 800), -1);
            due("one more than a letter", x.lacks(line, worth + 801), -1);
            due("two letters", x.lacks(line, worth + 11), -1);
            due("two letters of the same", x.lacks(line, worth + 1600), -1);
            for (int year : new int[] {MIN, MIN + 1, MIN + 800, -1, MAX - 800, MAX}) {
                due("lacks(" + line + ", " + year + ")", x.lacks(line, year), -1);
            }
        }
        due("the line then", x.line(2, 2), 5);
        for (int order = 0; order < 3; order++) {
            x.count(order);
            for (int letter = 1; letter <= 26; letter++) {
                due("letter " + letter + " of the order " + order,
                    x.lacks(2, x.letter(2) + x.letter(3) + x.letter(letter)), letter);
            }
        }
    }

    private static void lacksThrows() {
        quote(15, "Throws `IndexOutOfBoundsException` if there is no such line");
        for (int line : NO_LINES_OF_3) {
            refused(() -> mixed(), "lacks(" + line + ", 1)", INDEX, x -> x.lacks(line, 1));
            refused(() -> mixed(), "lacks(" + line + ", 0)", INDEX, x -> x.lacks(line, 0));
        }
        refused(() -> full(), "lacks(12, 1)", INDEX, x -> x.lacks(12, 1));
        due("the last line of a full poem", full().lacks(11, 11), 1);
    }

    private static void nearestReturns() {
        quote(16, "Returns the line whose value is the nearest to it, of several the one with the"
            + " smallest number; -1 if there is none.");
        for (int year : new int[] {0, 1, -1, 3001, MIN, MAX}) {
            due("nearest(" + year + ") of no lines", empty().nearest(year), -1);
            due("nearest(" + year + ") of an empty line", emptyLine().nearest(year), 0);
            due("nearest(" + year + ") of twelve alike", full().nearest(year), 0);
        }
        due("as near, above first", poemOf(words(11), words(10)).nearest(15), 0);
        due("as near, below first", poemOf(words(10), words(11)).nearest(15), 0);
        due("above is nearer", poemOf(words(10), words(11)).nearest(16), 1);
        due("below is nearer", poemOf(words(11), words(10)).nearest(14), 1);
        due("the same value twice", poemOf(words(26), words(5), words(5)).nearest(6), 1);
        AbjadPoems x = full();
        x.cut(11);
        due("the twelfth line", x.nearest(9), 11);
        due("the twelfth line from below", x.nearest(-4), 11);
    }

    private static void nearestYears() {
        quote(16, "Returns the line whose value is the nearest to it");
        AbjadPoems x = poemOf(words(5), ten(LONGEST), words());
        due("the greatest year", x.nearest(MAX), 1);
        due("a year ahead of it", x.nearest(MAX - 1), 1);
        due("the least year", x.nearest(MIN), 2);
        due("a year behind it", x.nearest(MIN + 1), 2);
        due("a year whose gap to the full line is no int", x.nearest(MIN + 48000 - 1), 2);
        due("a year whose gap to it is the greatest int", x.nearest(MIN + 48001), 2);
        due("a year below 0", x.nearest(-1), 2);
        AbjadPoems y = poemOf(ten(LONGEST), words(5));
        due("the least year, no empty line", y.nearest(MIN), 1);
        due("the year 0", y.nearest(0), 1);
    }

    private static void lettersReturns() {
        quote(17, "Returns with how few letters, any of them also several times, it can be"
            + " spelled, so that they come to it; -1 if it cannot be.");
        int[] least = {1, 1, -1};
        int[] lastButOne = {6, 116, 31};
        int[] last = {4, 116, 30};
        for (int order = 0; order < 3; order++) {
            AbjadPoems x = new AbjadPoems();
            x.count(order);
            due("letters(1)", x.letters(1), least[order]);
            due("letters(2)", x.letters(2), least[order]);
            due("letters(2999)", x.letters(2999), lastButOne[order]);
            due("letters(3000)", x.letters(3000), last[order]);
            for (int letter = 1; letter <= 26; letter++) {
                due("one letter", x.letters(x.letter(letter)), 1);
                due("the same one twice", x.letters(2 * x.letter(letter)) <= 2, true);
            }
        }
        AbjadPoems crooked = new AbjadPoems();
        crooked.count(2);
        for (int year = 1; year <= 400; year++) {
            boolean spelled = year != 1 && year != 2 && year != 5;
            due("whether " + year + " can be spelled", crooked.letters(year) > 0, spelled);
            due("or answers -1", spelled || crooked.letters(year) == -1, true);
        }
    }

    private static void lettersThrows() {
        quote(17, "Throws `IllegalArgumentException` if year is not 1 to 3000");
        for (int order = 0; order < 3; order++) {
            int now = order;
            for (int year : new int[] {0, 3001, -1, -3000, MIN, MAX}) {
                refused(() -> inOrder(now), "letters(" + year + ")", ARGUMENT,
                    x -> x.letters(year));
            }
        }
        AbjadPoems x = new AbjadPoems();
        x.letters(3000);
        due("letters(3001) behind letters(3000)", outcome(x, it -> it.letters(3001)), ARGUMENT);
        due("letters(0) behind letters(3000)", outcome(x, it -> it.letters(0)), ARGUMENT);
    }

    private static void spellBehindTheLast() {
        quote(18, "Returns the letter there; 0 behind the last one, or if the year cannot be"
            + " spelled.");
        int[] years = {3, 6, 7, 26, 27, 800, 801, 999, 1446, 1600, 2999, 3000};
        for (int order = 0; order < 3; order++) {
            for (int year : years) {
                AbjadPoems x = new AbjadPoems();
                x.count(order);
                int size = x.letters(year);
                due("the last letter of " + year, x.spell(year, size - 1) > 0, true);
                for (int place : new int[] {size, size + 1, 3000, 3001, MAX - 1, MAX}) {
                    due("spell(" + year + ", " + place + ")", x.spell(year, place), 0);
                }
            }
        }
        AbjadPoems x = new AbjadPoems();
        x.count(2);
        for (int year : new int[] {1, 2, 5}) {
            for (int place : new int[] {0, 1, 2, 3000, MAX}) {
                due("crooked spell(" + year + ", " + place + ")", x.spell(year, place), 0);
            }
        }
        x.count(1);
        due("plain spell(1, 0)", x.spell(1, 0), 1);
        due("plain spell(1, 1)", x.spell(1, 1), 0);
        due("plain spell(3000, 115)", x.spell(3000, 115), 10);
        due("plain spell(3000, 116)", x.spell(3000, 116), 0);
    }

    /** Of all spellings with at most three letters, the greatest of the fewest letters is due. */
    private static void spellGreatestFirst() {
        quote(18, "Spells a year with the fewest letters: first the greatest letter with which this"
            + " can be done, then, for what is left, likewise, and so on.");
        for (int order = 0; order < 3; order++) {
            Map<Integer, int[]> spellings = spellingsOf(order);
            AbjadPoems x = null;
            int calls = 512;
            for (Map.Entry<Integer, int[]> it : spellings.entrySet()) {
                if (calls > 500) {
                    x = inOrder(order);
                    calls = 12;
                }
                int[] letters = it.getValue();
                for (int place = 0; place < 3; place++) {
                    due("spell(" + it.getKey() + ", " + place + ") in the order " + order,
                        x.spell(it.getKey(), place), letters[place]);
                }
                calls += 3;
            }
        }
    }

    private static Map<Integer, int[]> spellingsOf(int order) {
        AbjadPoems x = new AbjadPoems();
        x.count(order);
        int[] values = new int[27];
        for (int letter = 1; letter <= 26; letter++) {
            values[letter] = x.letter(letter);
        }
        Map<Integer, int[]> spellings = new HashMap<>();
        for (int size = 3; size >= 1; size--) {
            for (int first = 1; first <= 26; first++) {
                for (int second = size > 1 ? 1 : 0; second <= (size > 1 ? 26 : 0); second++) {
                    for (int third = size > 2 ? 1 : 0; third <= (size > 2 ? 26 : 0); third++) {
                        spellings.put(values[first] + values[second] + values[third],
                            new int[] {first, second, third});
                    }
                }
            }
        }
        return spellings;
    }

    private static void spellThrows() {
        quote(18, "Throws `IllegalArgumentException` if year is not 1 to 3000");
        for (int order = 0; order < 3; order++) {
            int now = order;
            for (int year : new int[] {0, 3001, -1, -3000, MIN, MAX}) {
                for (int place : new int[] {0, 1, -1, MAX}) {
                    refused(() -> inOrder(now), "spell(" + year + ", " + place + ")", ARGUMENT,
                        x -> x.spell(year, place));
                }
            }
        }
        quote(18, "Throws `IndexOutOfBoundsException` if place is less than 0");
        for (int order = 0; order < 3; order++) {
            int now = order;
            for (int year : new int[] {1, 5, 1446, 3000}) {
                for (int place : new int[] {-1, -2, MIN}) {
                    refused(() -> inOrder(now), "spell(" + year + ", " + place + ")", INDEX,
                        x -> x.spell(year, place));
                }
            }
        }
    }

    private static void mean() {
        quote(19, "Returns the mean value of all words of the poem; 0 if there are none.");
        due("an empty poem", empty().mean(), 0.0);
        due("an empty line", emptyLine().mean(), 0.0);
        due("twelve empty lines", poemOf(new int[12][0]).mean(), 0.0);
        due("one word", poemOf(words(LONGEST)).mean(), 4800.0);
        due("a full poem", fullOf(LONGEST).mean(), 4800.0);
        due("lines without words do not count", poemOf(words(), words(5), words()).mean(), 5.0);
        due("a half", poemOf(words(1), words(2)).mean(), 1.5);
        due("a third", poemOf(words(1, 1, 2)).mean(), 4.0 / 3);
        due("of the words, not of the lines", poemOf(words(1, 1, 1), words(9)).mean(), 3.0);
        AbjadPoems x = full();
        x.cut(11);
        x.add(11, 2);
        due("a full poem whose last word is greater", x.mean(), 121.0 / 120);
        for (int at = 0; at < 120; at++) {
            x.cut(at / 10);
        }
        due("an emptied poem", x.mean(), 0.0);
    }

    private static void digestNumbers() {
        quote(20, "for each of the following numbers x, d becomes d * 31 + x");
        List<Integer> none = new ArrayList<>(List.of(0, 0, 0, 0, 0, 0, 0, 0));
        due("an empty poem", empty().digest(), wrapped(none).longValue());
        AbjadPoems x = emptyLine();
        due("an empty line", x.digest(),
            wrapped(List.of(0, 1, 0, 0, 0, 0, 0, 0, 0, 0, 0, 0, 0)).longValue());
        x.count(2);
        due("an empty line in the order 2", x.digest(),
            wrapped(List.of(2, 1, 0, 0, 0, 0, 0, 0, 0, 0, 0, 0, 0)).longValue());
        x.write();
        x.add(1, LONGEST);
        x.mark(1, 0, 5);
        due("the longest word, marked", x.digest(), wrapped(List.of(2, 2, 1, 6, 522, 1, 87, 0,
            0, 0, 0, 0, 0, 1, 6, 522, 1, 87, LONGEST, 6, 522, 1, 87)).longValue());
    }

    private static void digestWraps() {
        quote(20, "which wraps around as a 64-bit integer");
        List<Integer> numbers = new ArrayList<>(List.of(0, 1, 0, 0, 0, 0, 0, 0, 0, 0, 0, 0, 0));
        due("it is wrapped", wrapped(numbers).bitLength() > 64, true);
        boolean below = false;
        boolean above = false;
        AbjadPoems x = emptyLine();
        for (int size = 1; size <= 10; size++) {
            x.add(0, 1);
            long want = wrapped(onesOf(size)).longValue();
            due(size + " words", x.digest(), want);
            below |= want < 0;
            above |= want > 0;
        }
        due("both signs are seen", below && above, true);
        due("a full poem", fullMarked().digest(), digestOfFull());
    }

    private static List<Integer> onesOf(int size) {
        List<Integer> numbers = new ArrayList<>(List.of(0, 1, size, size, size, 0, 0,
            size * (size - 1) / 2, size, size, size, 0, 0));
        for (int word = 0; word < size; word++) {
            numbers.addAll(List.of(1, 1, 1, 0, 0));
        }
        return numbers;
    }

    private static AbjadPoems fullMarked() {
        AbjadPoems x = fullOf(LONGEST);
        for (int at = 0; at < 120; at++) {
            x.mark(at / 10, at % 10, at % 6);
        }
        return x;
    }

    // ---- the quotes and the document

    private static void holdQuotesAgainst(String document) {
        sentence = "the document";
        for (int promise = TERMS; promise <= PROMISES; promise++) {
            String section = sectionOf(document, promise);
            for (String line : section.split("\n")) {
                if (line.startsWith("Throws ")) {
                    due("a test of " + promise + ": " + line, quoted.contains(promise + ": " + line),
                        true);
                }
            }
            String start = promise + ": ";
            for (String text : quoted) {
                if (text.startsWith(start)) {
                    due("that it says " + text, section.contains(text.substring(start.length())),
                        true);
                }
            }
        }
    }

    private static String sectionOf(String document, int promise) {
        int start = promise == TERMS ? 0 : document.indexOf("## Promise " + promise + ":");
        int end = promise == PROMISES ? document.indexOf("## Not promised")
            : document.indexOf("## Promise " + (promise + 1) + ":");
        due("the section " + promise, start >= 0 && end > start, true);
        return start >= 0 && end > start ? document.substring(start, end) : "";
    }
}
