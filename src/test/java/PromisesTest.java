// For each promise of the document: ordinary inputs, the edges that it names, and wrong inputs.
public final class PromisesTest {
    private static final int LONGEST = 387420488; // six letters 26
    private static final int MIN = Integer.MIN_VALUE;
    private static final int MAX = Integer.MAX_VALUE;
    private static int wrong = 0;

    private interface Call {
        Object answer();
    }

    public static void main(String[] args) {
        newObject();
        count();
        letter();
        value();
        alike();
        write();
        add();
        cut();
        mark();
        word();
        line();
        told();
        toldPairs();
        hidden();
        hides();
        lacks();
        nearest();
        letters();
        spell();
        spellingsAddUp();
        mean();
        digest();
        System.out.println(wrong == 0 ? "all promises hold" : wrong + " answers are not as due");
        if (wrong != 0) {
            System.exit(1);
        }
    }

    // ---- helpers

    private static void due(String call, Object got, Object want) {
        if (!want.equals(got)) {
            wrong++;
            System.out.println(call + " answered " + got + ", due is " + want);
        }
    }

    /** Asks for the very class of the exception, and that the call changed nothing. */
    private static void dueThrow(AbjadPoems x, String name, Class<?> want, Call call) {
        long before = x.digest();
        Object got;
        try {
            got = call.answer();
        } catch (RuntimeException e) {
            got = e.getClass();
        }
        due(name, got, want);
        due(name + ", digest after it", x.digest(), before);
    }

    private static void dueIndex(AbjadPoems x, String name, Call call) {
        dueThrow(x, name, IndexOutOfBoundsException.class, call);
    }

    private static void dueArgument(AbjadPoems x, String name, Call call) {
        dueThrow(x, name, IllegalArgumentException.class, call);
    }

    private static void dueState(AbjadPoems x, String name, Call call) {
        dueThrow(x, name, IllegalStateException.class, call);
    }

    private static int wordOf(int... letters) {
        int number = 0;
        for (int letter : letters) {
            number = number * 27 + letter;
        }
        return number;
    }

    /** A poem with one line of these words. */
    private static AbjadPoems poemOf(int... words) {
        AbjadPoems x = new AbjadPoems();
        addLine(x, words);
        return x;
    }

    private static void addLine(AbjadPoems x, int... words) {
        int line = x.write();
        for (int word : words) {
            x.add(line, word);
        }
    }

    /** Twelve lines of ten words of the letter 1. */
    private static AbjadPoems fullPoem() {
        AbjadPoems x = new AbjadPoems();
        for (int line = 0; line < 12; line++) {
            addLine(x, 1, 1, 1, 1, 1, 1, 1, 1, 1, 1);
        }
        return x;
    }

    private static final int[] NO_WORDS = {0, -1, MIN, MAX, LONGEST + 1, 27, 54, 729, 746, 20439,
        wordOf(1, 0, 1), wordOf(5, 4, 3, 2, 1, 0), wordOf(1, 0, 3, 4, 5, 6), LONGEST - 26};

    // ---- letters and words

    private static void newObject() {
        AbjadPoems x = new AbjadPoems();
        due("1: told(0)", x.told(0), 0);
        due("1: told(1)", x.told(1), 0);
        due("1: letter(10)", x.letter(10), 10);
        due("1: letter(26)", x.letter(26), 800);
        due("1: write()", x.write(), 0);
        due("1: count(1)", x.count(1), 0);
        AbjadPoems y = new AbjadPoems();
        due("1: another's order", y.count(0), 0);
        due("1: another's lines", y.told(0), 0);
    }

    private static void count() {
        AbjadPoems x = poemOf(wordOf(19, 10));
        x.mark(0, 0, 0);
        due("2: count(2)", x.count(2), 0);
        due("2: crooked value", x.line(0, 2), 3 + 95);
        due("2: crooked marked value", x.told(5), 3);
        due("2: count(1)", x.count(1), 2);
        due("2: plain value", x.line(0, 2), 29);
        due("2: count(1) again", x.count(1), 1);
        due("2: count(0)", x.count(0), 1);
        due("2: round value", x.line(0, 2), 110);
        x.count(2);
        for (int order : new int[] {-1, 3, MIN, MAX}) {
            dueIndex(x, "2: count(" + order + ")", () -> x.count(order));
        }
        due("2: order after wrong ones", x.count(0), 2);
    }

    private static void letter() {
        int[] round = {1, 2, 3, 4, 5, 6, 7, 8, 9, 10, 20, 30, 40, 50, 60, 70, 80, 90,
            100, 200, 300, 400, 500, 600, 700, 800};
        int[] crooked = {8, 29, 64, 12, 75, 51, 41, 45, 63, 95, 40, 100, 73, 60, 61, 76, 4, 47,
            3, 74, 58, 56, 68, 94, 33, 87};
        AbjadPoems x = new AbjadPoems();
        for (int letter = 1; letter <= 26; letter++) {
            x.count(0);
            due("3: round letter " + letter, x.letter(letter), round[letter - 1]);
            x.count(1);
            due("3: plain letter " + letter, x.letter(letter), letter);
            x.count(2);
            due("3: crooked letter " + letter, x.letter(letter), crooked[letter - 1]);
        }
        for (int letter : new int[] {0, 27, -1, MIN, MAX}) {
            dueIndex(x, "3: letter(" + letter + ")", () -> x.letter(letter));
        }
    }

    private static void value() {
        AbjadPoems x = new AbjadPoems();
        due("4: value of one letter", x.value(26), 800);
        due("4: value(28)", x.value(28), 2);
        due("4: value of 10, 19", x.value(wordOf(10, 19)), 110);
        due("4: value of six", x.value(wordOf(1, 2, 11, 12, 20, 21)), 553);
        due("4: value of the longest", x.value(LONGEST), 4800);
        due("4: value of the least of six", x.value(wordOf(1, 1, 1, 1, 1, 1)), 6);
        x.count(1);
        due("4: plain value", x.value(wordOf(1, 2, 11, 12, 20, 21)), 67);
        x.count(2);
        due("4: crooked value", x.value(wordOf(17, 19)), 7);
        for (int word : NO_WORDS) {
            dueArgument(x, "4: value(" + word + ")", () -> x.value(word));
        }
    }

    private static void alike() {
        AbjadPoems x = new AbjadPoems();
        due("5: the same word", x.alike(30, 30), true);
        due("5: turned round", x.alike(30, 82), true);
        due("5: other letters", x.alike(30, 57), false);
        due("5: the same value", x.alike(30, 56), false);
        due("5: six mixed", x.alike(wordOf(1, 2, 3, 1, 26, 9), wordOf(9, 26, 1, 3, 2, 1)), true);
        due("5: not as often", x.alike(wordOf(1, 1, 2), wordOf(1, 2, 2)), false);
        due("5: longer", x.alike(wordOf(1, 2), wordOf(1, 2, 2)), false);
        due("5: shorter", x.alike(wordOf(1, 2, 26), wordOf(2, 1)), false);
        due("5: without the letter 1", x.alike(wordOf(1, 2), 2), false);
        due("5: last letter", x.alike(26, 25), false);
        due("5: first letter", x.alike(wordOf(1, 5), wordOf(5, 5)), false);
        for (int word : NO_WORDS) {
            dueArgument(x, "5: alike(" + word + ", 1)", () -> x.alike(word, 1));
            dueArgument(x, "5: alike(1, " + word + ")", () -> x.alike(1, word));
        }
    }

    // ---- the poem

    private static void write() {
        AbjadPoems x = new AbjadPoems();
        for (int line = 0; line < 12; line++) {
            due("6: write()", x.write(), line);
            due("6: words of a new line", x.line(line, 0), 0);
            due("6: lines", x.told(0), line + 1);
        }
        dueState(x, "6: a thirteenth write()", () -> x.write());
        due("6: the last line stands", x.add(11, 5), 1);
    }

    private static void add() {
        AbjadPoems x = new AbjadPoems();
        dueIndex(x, "7: add without lines", () -> x.add(0, 1));
        x.write();
        x.write();
        for (int word : NO_WORDS) {
            dueArgument(x, "7: add(1, " + word + ")", () -> x.add(1, word));
        }
        for (int line : new int[] {-1, 2, 12, MIN, MAX}) {
            dueIndex(x, "7: add(" + line + ", 1)", () -> x.add(line, 1));
            dueIndex(x, "7: add(" + line + ", 0), no line first", () -> x.add(line, 0));
        }
        for (int word = 0; word < 10; word++) {
            due("7: add", x.add(1, 109 + word), word + 1);
            due("7: the word added", x.word(1, word, 0), 109 + word);
        }
        due("7: the other line", x.line(0, 0), 0);
        dueState(x, "7: an eleventh word", () -> x.add(1, 1));
        dueArgument(x, "7: an eleventh that is none", () -> x.add(1, 27));
        dueIndex(x, "7: an eleventh nowhere", () -> x.add(2, 1));
        due("7: the longest word", x.add(0, LONGEST), 1);
        due("7: it is kept", x.word(0, 0, 0), LONGEST);
    }

    private static void cut() {
        AbjadPoems x = new AbjadPoems();
        dueIndex(x, "8: cut without lines", () -> x.cut(0));
        addLine(x, 30, 85, 5);
        x.write();
        for (int line : new int[] {-1, 2, MIN, MAX}) {
            dueIndex(x, "8: cut(" + line + ")", () -> x.cut(line));
        }
        dueState(x, "8: cut of an empty line", () -> x.cut(1));
        due("8: cut", x.cut(0), 5);
        due("8: words then", x.line(0, 0), 2);
        due("8: cut", x.cut(0), 85);
        x.mark(0, 0, 0);
        x.mark(0, 0, 1);
        due("8: cut of a marked word", x.cut(0), 30);
        due("8: no marks then", x.told(4), 0);
        due("8: nothing hidden then", x.told(5), 0);
        dueState(x, "8: cut of an emptied line", () -> x.cut(0));
        due("8: add after cuts", x.add(0, 30), 1);
        due("8: its letters are not marked", x.word(0, 0, 3), 0);
        due("8: add", x.add(0, 7), 2);
        due("8: cut takes the newest", x.cut(0), 7);
        due("8: the lines stay", x.told(0), 2);
    }

    private static void mark() {
        AbjadPoems x = new AbjadPoems();
        dueIndex(x, "9: mark without lines", () -> x.mark(0, 0, 0));
        addLine(x, wordOf(1, 2), wordOf(1, 2, 3, 4, 5, 6), 26);
        x.write();
        due("9: mark the first place", x.mark(0, 1, 0), true);
        due("9: its value", x.word(0, 1, 4), 1);
        due("9: mark the last place", x.mark(0, 1, 5), true);
        due("9: their value", x.word(0, 1, 4), 7);
        due("9: unmark", x.mark(0, 1, 0), false);
        due("9: the other's value", x.word(0, 1, 4), 6);
        due("9: mark again", x.mark(0, 1, 0), true);
        due("9: other words", x.word(0, 0, 3) + x.word(0, 2, 3), 0);
        due("9: one letter", x.mark(0, 2, 0), true);
        due("9: two letters", x.mark(0, 0, 1), true);
        due("9: its second", x.word(0, 0, 4), 2);
        for (int bad : new int[] {-1, 6, 27, 32, MIN, MAX}) {
            dueIndex(x, "9: no line " + bad, () -> x.mark(bad, 0, 0));
            dueIndex(x, "9: no word " + bad, () -> x.mark(0, bad, 0));
            dueIndex(x, "9: no place " + bad, () -> x.mark(0, 1, bad));
        }
        dueIndex(x, "9: behind a word of one", () -> x.mark(0, 2, 1));
        dueIndex(x, "9: behind a word of two", () -> x.mark(0, 0, 2));
        dueIndex(x, "9: behind the words", () -> x.mark(0, 3, 0));
        dueIndex(x, "9: an empty line", () -> x.mark(1, 0, 0));
        dueIndex(x, "9: behind the lines", () -> x.mark(2, 0, 0));
    }

    private static void word() {
        AbjadPoems x = new AbjadPoems();
        dueIndex(x, "10: word without lines", () -> x.word(0, 0, 0));
        int word = wordOf(26, 10, 1, 19);
        addLine(x, 5, word);
        x.write();
        x.mark(0, 1, 1);
        x.mark(0, 1, 3);
        due("10: the word", x.word(0, 1, 0), word);
        due("10: its letters", x.word(0, 1, 1), 4);
        due("10: its value", x.word(0, 1, 2), 911);
        due("10: its marked letters", x.word(0, 1, 3), 2);
        due("10: their value", x.word(0, 1, 4), 110);
        due("10: another word", x.word(0, 0, 0), 5);
        due("10: its letters", x.word(0, 0, 1), 1);
        due("10: its marked letters", x.word(0, 0, 3), 0);
        due("10: their value", x.word(0, 0, 4), 0);
        x.count(1);
        due("10: its plain value", x.word(0, 1, 2), 56);
        due("10: the plain value of the marked", x.word(0, 1, 4), 29);
        for (int bad : new int[] {-1, 5, 10, 12, MIN, MAX}) {
            dueIndex(x, "10: no line " + bad, () -> x.word(bad, 0, 0));
            dueIndex(x, "10: no word " + bad, () -> x.word(0, bad, 0));
            dueIndex(x, "10: no what " + bad, () -> x.word(0, 0, bad));
        }
        dueIndex(x, "10: behind the words", () -> x.word(0, 2, 0));
        dueIndex(x, "10: an empty line", () -> x.word(1, 0, 0));
        dueIndex(x, "10: behind the lines", () -> x.word(2, 0, 0));
    }

    private static void line() {
        AbjadPoems x = new AbjadPoems();
        dueIndex(x, "11: line without lines", () -> x.line(0, 0));
        addLine(x, 5);
        addLine(x, wordOf(1, 19), wordOf(2, 3, 10), 4);
        x.write();
        x.mark(0, 0, 0);
        x.mark(1, 0, 1);
        x.mark(1, 1, 0);
        x.mark(1, 1, 2);
        due("11: words", x.line(1, 0), 3);
        due("11: letters", x.line(1, 1), 6);
        due("11: value", x.line(1, 2), 120);
        due("11: marked letters", x.line(1, 3), 3);
        due("11: their value", x.line(1, 4), 112);
        for (int what = 0; what < 5; what++) {
            due("11: an empty line " + what, x.line(2, what), 0);
        }
        for (int bad : new int[] {-1, 5, 12, MIN, MAX}) {
            dueIndex(x, "11: no line " + bad, () -> x.line(bad, 0));
            dueIndex(x, "11: no what " + bad, () -> x.line(0, bad));
        }
        dueIndex(x, "11: behind the lines", () -> x.line(3, 0));
    }

    private static void told() {
        AbjadPoems x = new AbjadPoems();
        for (int what = 0; what < 7; what++) {
            due("12: an empty poem " + what, x.told(what), 0);
        }
        addLine(x, wordOf(1, 19), 5);
        x.write();
        addLine(x, wordOf(2, 3, 10));
        x.mark(0, 0, 1);
        x.mark(0, 1, 0);
        x.mark(2, 0, 0);
        due("12: lines", x.told(0), 3);
        due("12: words", x.told(1), 3);
        due("12: letters", x.told(2), 6);
        due("12: value", x.told(3), 121);
        due("12: marked letters", x.told(4), 3);
        due("12: the year that these hide", x.told(5), 107);
        due("12: no pairs", x.told(6), 0);
        x.count(1);
        due("12: plain value", x.told(3), 40);
        due("12: plain year", x.told(5), 26);
        for (int bad : new int[] {-1, 7, MIN, MAX}) {
            dueIndex(x, "12: told(" + bad + ")", () -> x.told(bad));
        }
    }

    private static void toldPairs() {
        AbjadPoems x = poemOf(30, 30);
        due("12: the same word twice", x.told(6), 1);
        addLine(x, 56);
        due("12: pairs across lines", x.told(6), 3);
        addLine(x, 3, wordOf(1, 2), 100);
        due("12: pairs of two values", x.told(6), 4);
        x.cut(1);
        due("12: pairs after a cut", x.told(6), 2);
        AbjadPoems y = poemOf(10, wordOf(1, 9), 17, 19);
        due("12: round pairs", y.told(6), 1);
        y.count(2);
        due("12: crooked pairs", y.told(6), 0);
        AbjadPoems full = fullPoem();
        due("12: pairs of a full poem", full.told(6), 7140);
        due("12: words of a full poem", full.told(1), 120);
    }

    // ---- years

    private static void hidden() {
        AbjadPoems x = new AbjadPoems();
        dueIndex(x, "13: hidden without lines", () -> x.hidden(0, 1));
        addLine(x, 1, 2, 3, 30, 56);
        x.write();
        due("13: the first word only", x.hidden(0, 1), 0);
        due("13: one word", x.hidden(0, 2), 11);
        due("13: the last word only", x.hidden(0, 8), 34);
        due("13: the first of several", x.hidden(0, 3), 1);
        due("13: the first of two words", x.hidden(0, 4), 33);
        due("13: all words", x.hidden(0, 14), 4);
        due("13: all but one", x.hidden(0, 13), 14);
        due("13: not one behind the other", x.hidden(0, 12), -1);
        due("13: more than all", x.hidden(0, 15), -1);
        for (int year : new int[] {0, -1, MIN, MAX}) {
            due("13: hidden(0, " + year + ")", x.hidden(0, year), -1);
            due("13: in an empty line " + year, x.hidden(1, year), -1);
        }
        for (int line : new int[] {-1, 2, 12, MIN, MAX}) {
            dueIndex(x, "13: hidden(" + line + ", 1)", () -> x.hidden(line, 1));
        }
        AbjadPoems y = poemOf(1, 1, 1, 1, 1, 1, 1, 1, 1, 26);
        due("13: the last word of a full line", y.hidden(0, 800), 99);
        due("13: a full line", y.hidden(0, 809), 9);
        y.count(1);
        due("13: plain", y.hidden(0, 27), 89);
    }

    private static void hides() {
        AbjadPoems x = new AbjadPoems();
        due("14: an empty poem", x.hides(1), 0);
        addLine(x, 1, 2, 3, 30, 56);
        x.write();
        addLine(x, 3, 1, 2, 1);
        due("14: hides(3)", x.hides(3), 5);
        due("14: hides(4)", x.hides(4), 4);
        due("14: hides(14)", x.hides(14), 1);
        due("14: not across lines", x.hides(21), 0);
        for (int year : new int[] {0, -1, MIN, MAX}) {
            due("14: hides(" + year + ")", x.hides(year), 0);
        }
        x.cut(2);
        due("14: after a cut", x.hides(3), 4);
        x.count(2);
        due("14: crooked", x.hides(8), 2);
        AbjadPoems full = fullPoem();
        due("14: single words of a full poem", full.hides(1), 120);
        due("14: full lines", full.hides(10), 12);
    }

    private static void lacks() {
        AbjadPoems x = new AbjadPoems();
        dueIndex(x, "15: lacks without lines", () -> x.lacks(0, 1));
        addLine(x, 30, 85, 5);
        x.write();
        due("15: the first letter", x.lacks(0, 17), 1);
        due("15: a letter of tens", x.lacks(0, 36), 11);
        due("15: the last letter", x.lacks(0, 816), 26);
        due("15: between letters", x.lacks(0, 27), -1);
        due("15: nothing is lacking", x.lacks(0, 16), -1);
        due("15: too much already", x.lacks(0, 15), -1);
        due("15: too far", x.lacks(0, 817), -1);
        due("15: an empty line", x.lacks(1, 100), 19);
        due("15: an empty line and no year", x.lacks(1, 0), -1);
        due("15: least", x.lacks(0, MIN), -1);
        due("15: greatest", x.lacks(0, MAX), -1);
        x.count(1);
        due("15: plain", x.lacks(0, 42), 26);
        x.count(2);
        due("15: crooked", x.lacks(1, 4), 17);
        for (int line : new int[] {-1, 2, 12, MIN, MAX}) {
            dueIndex(x, "15: lacks(" + line + ", 1)", () -> x.lacks(line, 1));
        }
        AbjadPoems full = poemOf(1, 1, 1, 1, 1, 1, 1, 1, 1, 1);
        due("15: a full line", full.lacks(0, 13), 3);
    }

    private static void nearest() {
        AbjadPoems x = new AbjadPoems();
        due("16: an empty poem", x.nearest(5), -1);
        addLine(x, 10);
        due("16: one line", x.nearest(5000), 0);
        addLine(x, 20, 10);
        addLine(x, 10);
        x.write();
        due("16: the very value", x.nearest(210), 1);
        due("16: of several the first", x.nearest(10), 0);
        due("16: just nearer to the first", x.nearest(109), 0);
        due("16: as near to both", x.nearest(110), 0);
        due("16: just nearer to the second", x.nearest(111), 1);
        due("16: an empty line", x.nearest(0), 3);
        due("16: as near as an empty line", x.nearest(5), 0);
        due("16: greatest", x.nearest(MAX), 1);
        due("16: least", x.nearest(MIN), 3);
        due("16: less than 0", x.nearest(-2147483600), 3);
        x.count(1);
        due("16: plain", x.nearest(25), 1);
    }

    private static void letters() {
        AbjadPoems x = new AbjadPoems();
        int[][] round = {{1, 1}, {9, 1}, {11, 2}, {99, 2}, {100, 1}, {900, 2}, {999, 4}, {1446, 4},
            {1600, 2}, {1601, 3}, {2400, 3}, {2999, 6}, {3000, 4}};
        int[][] plain = {{1, 1}, {26, 1}, {27, 2}, {52, 2}, {53, 3}, {1446, 56}, {3000, 116}};
        int[][] crooked = {{1, -1}, {2, -1}, {3, 1}, {4, 1}, {5, -1}, {6, 2}, {7, 2}, {8, 1},
            {100, 1}, {101, 2}, {200, 2}, {3000, 30}};
        dueLetters(x, "round", round);
        x.count(1);
        dueLetters(x, "plain", plain);
        x.count(2);
        dueLetters(x, "crooked", crooked);
        x.count(0);
        dueLetters(x, "round again", round);
        for (int year : new int[] {0, -1, 3001, MIN, MAX}) {
            dueArgument(x, "17: letters(" + year + ")", () -> x.letters(year));
        }
    }

    private static void dueLetters(AbjadPoems x, String order, int[][] pairs) {
        for (int[] pair : pairs) {
            due("17: " + order + " letters(" + pair[0] + ")", x.letters(pair[0]), pair[1]);
        }
    }

    private static void spell() {
        AbjadPoems x = new AbjadPoems();
        dueSpelling(x, 1446, 26, 24, 13, 6, 0, 0);
        dueSpelling(x, 3000, 26, 26, 26, 24, 0);
        dueSpelling(x, 999, 26, 19, 18, 9, 0);
        dueSpelling(x, 900, 26, 19, 0);
        dueSpelling(x, 1, 1, 0, 0);
        x.count(1);
        dueSpelling(x, 27, 26, 1, 0);
        dueSpelling(x, 53, 26, 26, 1, 0);
        due("18: plain spell(3000, 114)", x.spell(3000, 114), 26);
        due("18: plain spell(3000, 115)", x.spell(3000, 115), 10);
        due("18: plain spell(3000, 116)", x.spell(3000, 116), 0);
        x.count(2);
        dueSpelling(x, 5, 0, 0);
        dueSpelling(x, 7, 19, 17, 0);
        dueSpelling(x, 101, 25, 23, 0);
        dueSpelling(x, 6, 19, 19, 0);
        due("18: far behind the last", x.spell(7, MAX), 0);
        due("18: far behind none", x.spell(5, MAX), 0);
        for (int year : new int[] {0, -1, 3001, MIN, MAX}) {
            dueArgument(x, "18: spell(" + year + ", 0)", () -> x.spell(year, 0));
            dueArgument(x, "18: spell(" + year + ", -1), the year first", () -> x.spell(year, -1));
        }
        for (int place : new int[] {-1, -2, MIN}) {
            dueIndex(x, "18: spell(7, " + place + ")", () -> x.spell(7, place));
            dueIndex(x, "18: spell(5, " + place + ")", () -> x.spell(5, place));
        }
    }

    private static void dueSpelling(AbjadPoems x, int year, int... letters) {
        for (int place = 0; place < letters.length; place++) {
            due("18: spell(" + year + ", " + place + ")", x.spell(year, place), letters[place]);
        }
    }

    private static void spellingsAddUp() {
        for (int order = 0; order < 3; order++) {
            for (int year = 10 + order; year <= 3000; year += 299) {
                AbjadPoems x = new AbjadPoems();
                x.count(order);
                int size = x.letters(year);
                int sum = 0;
                for (int place = 0; place < size; place++) {
                    sum += x.letter(x.spell(year, place));
                }
                due("18: order " + order + ", the spelling of " + year + " added", sum, year);
            }
        }
    }

    private static void mean() {
        AbjadPoems x = new AbjadPoems();
        due("19: an empty poem", x.mean(), 0.0);
        x.write();
        due("19: an empty line", x.mean(), 0.0);
        x.add(0, 5);
        due("19: one word", x.mean(), 5.0);
        x.write();
        x.add(1, 10);
        due("19: two words", x.mean(), 7.5);
        x.add(1, 1);
        due("19: three words", x.mean(), 16.0 / 3);
        x.count(2);
        due("19: crooked", x.mean(), (75.0 + 95 + 8) / 3);
        x.cut(1);
        x.cut(1);
        x.cut(0);
        due("19: all cut", x.mean(), 0.0);
    }

    private static void digest() {
        AbjadPoems x = new AbjadPoems();
        due("20: a new object", x.digest(), digestOf(0, 0, 0, 0, 0, 0, 0, 0));
        x.count(2);
        due("20: the order 2", x.digest(), digestOf(2, 0, 0, 0, 0, 0, 0, 0));
        x.count(1);
        addLine(x, 30, 82);
        x.write();
        addLine(x, 26);
        x.mark(0, 1, 0);
        x.mark(2, 0, 0);
        long want = digestOf(1, 3, 3, 5, 34, 2, 29, 1,
            2, 4, 8, 1, 3, 30, 2, 4, 0, 0, 82, 2, 4, 1, 3,
            0, 0, 0, 0, 0,
            1, 1, 26, 1, 26, 26, 1, 26, 1, 26);
        due("20: three lines", x.digest(), want);
        due("20: asked again", x.digest(), want);
    }

    private static long digestOf(int... numbers) {
        long d = 1297;
        for (int number : numbers) {
            d = d * 31 + number;
        }
        return d;
    }
}
