import java.util.ArrayList;
import java.util.List;

// Long runs of mixed calls, each answer held against a slow model that keeps the poem as lists of
// letters. The calls are the same every time.
public final class ModelTest {
    private static final int RUNS = 60;
    private static final int CALLS = 512;
    private static final int KINDS = 19;
    private static int wrong = 0;
    private static long seed = 20261119;

    public static void main(String[] args) {
        for (int run = 0; run < RUNS && wrong == 0; run++) {
            AbjadPoems x = new AbjadPoems();
            Model model = new Model();
            for (int call = 0; call < CALLS - 1; call++) {
                compare(run, call, x, model);
            }
            due(run, "the last digest", x.digest(), model.digest());
        }
        allYears();
        System.out.println(wrong == 0 ? "all runs answer as the model" : wrong + " answers differ");
        if (wrong != 0) {
            System.exit(1);
        }
    }

    private static void due(int run, String call, Object got, Object want) {
        if (!want.equals(got)) {
            wrong++;
            System.out.println("run " + run + ": " + call + " answered " + got + ", due is " + want);
        }
    }

    private static int below(int bound) {
        seed = seed * 6364136223846793005L + 1442695040888963407L;
        return (int) ((seed >>> 33) % bound);
    }

    /** Mostly what is in range, at times what is just outside it. */
    private static int around(int bound) {
        return below(12) == 0 ? below(bound + 4) - 2 : below(Math.max(1, bound));
    }

    private static int someWord() {
        if (below(14) == 0) {
            return below(2) == 0 ? below(387420489) : 27 * below(2000);
        }
        int number = 0;
        int size = 1 + below(below(3) == 0 ? 6 : 2);
        for (int place = 0; place < size; place++) {
            number = number * 27 + 1 + below(below(2) == 0 ? 26 : 4);
        }
        return number;
    }

    private static int someYear(int kind, Model model) {
        if (kind == 15 || kind == 16) {
            return below(15) == 0 ? below(2) * 3001 - below(2) : 1 + below(3000);
        }
        return below(3) == 0 ? below(4000) - 100 : below(60) + (below(2) == 0 ? model.someWorth() : 0);
    }

    private static void compare(int run, int call, AbjadPoems x, Model model) {
        int kind = call < 40 ? 4 + below(2) : below(KINDS);
        if (kind == 0 && below(3) != 0) {
            kind = 5;
        }
        int a = 0;
        int b = 0;
        int c = 0;
        switch (kind) {
            case 0: a = around(3); break;
            case 1: a = around(27); break;
            case 2: a = someWord(); break;
            case 3: a = someWord(); b = below(2) == 0 ? someWord() : Model.turned(a); break;
            case 5: a = around(model.lines.size()); b = someWord(); break;
            case 6: a = around(model.lines.size()); break;
            case 7: a = around(model.lines.size()); b = around(model.sizeOf(a)); c = around(4); break;
            case 8: a = around(model.lines.size()); b = around(model.sizeOf(a)); c = around(5); break;
            case 9: a = around(model.lines.size()); b = around(5); break;
            case 10: a = around(7); break;
            case 11: case 13: a = around(model.lines.size()); b = someYear(kind, model); break;
            case 12: case 14: case 15: a = someYear(kind, model); break;
            case 16: a = someYear(kind, model); b = around(9); break;
            default: break;
        }
        due(run, "call " + call + ", kind " + kind + " (" + a + ", " + b + ", " + c + ")",
            answerOf(x, kind, a, b, c), model.answerOf(kind, a, b, c));
    }

    private static Object answerOf(AbjadPoems x, int kind, int a, int b, int c) {
        try {
            switch (kind) {
                case 0: return x.count(a);
                case 1: return x.letter(a);
                case 2: return x.value(a);
                case 3: return x.alike(a, b);
                case 4: return x.write();
                case 5: return x.add(a, b);
                case 6: return x.cut(a);
                case 7: return x.mark(a, b, c);
                case 8: return x.word(a, b, c);
                case 9: return x.line(a, b);
                case 10: return x.told(a);
                case 11: return x.hidden(a, b);
                case 12: return x.hides(a);
                case 13: return x.lacks(a, b);
                case 14: return x.nearest(a);
                case 15: return x.letters(a);
                case 16: return x.spell(a, b);
                case 17: return x.mean();
                default: return x.digest();
            }
        } catch (RuntimeException e) {
            return e.getClass().getSimpleName();
        }
    }

    private static void allYears() {
        for (int order = 0; order < 3; order++) {
            AbjadPoems x = null;
            Model model = new Model();
            model.order = order;
            for (int year = 1; year <= 3000; year++) {
                if (year % 300 == 1) {
                    x = new AbjadPoems();
                    x.count(order);
                }
                due(-order, "letters(" + year + ")", x.letters(year), model.answerOf(15, year, 0, 0));
            }
        }
    }

    /** The poem as the document tells it: a word is a list of letters, a letter's mark a boolean. */
    private static final class Model {
        private static final String INDEX = "IndexOutOfBoundsException";
        private static final String ARGUMENT = "IllegalArgumentException";
        private static final String STATE = "IllegalStateException";

        private static final class Word {
            final int number;
            final List<Integer> letters;
            final boolean[] marked = new boolean[6];

            Word(int number) {
                this.number = number;
                this.letters = lettersOf(number);
            }
        }

        private final List<List<Word>> lines = new ArrayList<>();
        private final int[][] steps = new int[3][];
        private int order = 0;

        static List<Integer> lettersOf(int number) {
            List<Integer> letters = new ArrayList<>();
            for (char sign : number < 0 ? new char[0] : Integer.toString(number, 27).toCharArray()) {
                letters.add(Character.digit(sign, 27));
            }
            return letters;
        }

        static int turned(int number) {
            int other = 0;
            List<Integer> letters = lettersOf(number);
            for (int place = letters.size() - 1; place >= 0; place--) {
                other = other * 27 + letters.get(place);
            }
            return other;
        }

        static boolean none(int number) {
            List<Integer> letters = lettersOf(number);
            return letters.isEmpty() || letters.size() > 6 || letters.contains(0);
        }

        int worth(int letter) {
            if (order == 0) {
                return (1 + (letter - 1) % 9) * (letter < 10 ? 1 : letter < 19 ? 10 : 100);
            }
            return order == 1 ? letter : (letter * letter * 7) % 101 + 1;
        }

        int worth(List<Integer> letters) {
            int sum = 0;
            for (int letter : letters) {
                sum += worth(letter);
            }
            return sum;
        }

        int sizeOf(int line) {
            return noLine(line) ? 0 : lines.get(line).size();
        }

        int someWorth() {
            return lines.isEmpty() ? 0 : told(3) / lines.size();
        }

        boolean noLine(int line) {
            return line < 0 || line >= lines.size();
        }

        boolean noWord(int line, int word) {
            return noLine(line) || word < 0 || word >= lines.get(line).size();
        }

        Object answerOf(int kind, int a, int b, int c) {
            switch (kind) {
                case 0: return count(a);
                case 1: return a < 1 || a > 26 ? INDEX : (Object) worth(a);
                case 2: return none(a) ? ARGUMENT : (Object) worth(lettersOf(a));
                case 3: return none(a) || none(b) ? ARGUMENT : (Object) sorted(a).equals(sorted(b));
                case 4: return write();
                case 5: return add(a, b);
                case 6: return cut(a);
                case 7: return mark(a, b, c);
                case 8: return noWord(a, b) || c < 0 || c > 4 ? INDEX
                    : (Object) word(lines.get(a).get(b), c);
                case 9: return noLine(a) || b < 0 || b > 4 ? INDEX : (Object) line(lines.get(a), b);
                case 10: return a < 0 || a > 6 ? INDEX : (Object) told(a);
                case 11: return noLine(a) ? INDEX : (Object) hidden(a, b);
                case 12: return hides(a);
                case 13: return noLine(a) ? INDEX : (Object) lacks(a, b);
                case 14: return nearest(a);
                case 15: return a < 1 || a > 3000 ? ARGUMENT : (Object) steps()[a];
                case 16: return a < 1 || a > 3000 ? ARGUMENT : b < 0 ? INDEX : (Object) spell(a, b);
                case 17: return told(1) == 0 ? 0.0 : (double) told(3) / told(1);
                default: return digest();
            }
        }

        private Object count(int next) {
            if (next < 0 || next > 2) {
                return INDEX;
            }
            int before = order;
            order = next;
            return before;
        }

        private static List<Integer> sorted(int number) {
            List<Integer> letters = lettersOf(number);
            letters.sort(null);
            return letters;
        }

        private Object write() {
            if (lines.size() == 12) {
                return STATE;
            }
            lines.add(new ArrayList<>());
            return lines.size() - 1;
        }

        private Object add(int line, int word) {
            if (noLine(line)) {
                return INDEX;
            }
            if (none(word)) {
                return ARGUMENT;
            }
            if (lines.get(line).size() == 10) {
                return STATE;
            }
            lines.get(line).add(new Word(word));
            return lines.get(line).size();
        }

        private Object cut(int line) {
            if (noLine(line)) {
                return INDEX;
            }
            List<Word> words = lines.get(line);
            return words.isEmpty() ? STATE : (Object) words.remove(words.size() - 1).number;
        }

        private Object mark(int line, int word, int place) {
            if (noWord(line, word)) {
                return INDEX;
            }
            Word it = lines.get(line).get(word);
            if (place < 0 || place >= it.letters.size()) {
                return INDEX;
            }
            it.marked[place] = !it.marked[place];
            return it.marked[place];
        }

        private int word(Word word, int what) {
            List<Integer> marked = new ArrayList<>();
            for (int place = 0; place < word.letters.size(); place++) {
                if (word.marked[place]) {
                    marked.add(word.letters.get(place));
                }
            }
            return new int[] {word.number, word.letters.size(), worth(word.letters), marked.size(),
                worth(marked)}[what];
        }

        private int line(List<Word> words, int what) {
            int sum = 0;
            for (Word word : words) {
                sum += what == 0 ? 1 : word(word, what);
            }
            return sum;
        }

        private int told(int what) {
            if (what == 0) {
                return lines.size();
            }
            if (what == 6) {
                return pairs();
            }
            int sum = 0;
            for (List<Word> words : lines) {
                sum += line(words, what - 1);
            }
            return sum;
        }

        private int pairs() {
            int[] times = new int[5000];
            int pairs = 0;
            for (List<Word> words : lines) {
                for (Word word : words) {
                    pairs += times[word(word, 2)]++;
                }
            }
            return pairs;
        }

        private int hidden(int line, int year) {
            int size = lines.get(line).size();
            for (int run = 0; run < 100; run++) {
                int first = run / 10;
                int last = run % 10;
                if (first <= last && last < size
                        && line(lines.get(line).subList(first, last + 1), 2) == year) {
                    return run;
                }
            }
            return -1;
        }

        private int hides(int year) {
            int runs = 0;
            for (List<Word> words : lines) {
                for (int last = 0; last < words.size(); last++) {
                    for (int first = 0; first <= last; first++) {
                        runs += line(words.subList(first, last + 1), 2) == year ? 1 : 0;
                    }
                }
            }
            return runs;
        }

        private int lacks(int line, int year) {
            for (int letter = 1; letter <= 26; letter++) {
                if (line(lines.get(line), 2) + (long) worth(letter) == year) {
                    return letter;
                }
            }
            return -1;
        }

        private int nearest(int year) {
            int best = -1;
            for (int line = lines.size() - 1; line >= 0; line--) {
                if (best < 0 || gap(line, year) <= gap(best, year)) {
                    best = line;
                }
            }
            return best;
        }

        private long gap(int line, int year) {
            long gap = line(lines.get(line), 2) - (long) year;
            return gap < 0 ? -gap : gap;
        }

        /** How far each year is from 0, found by spreading from 0 a letter at a time. */
        private int[] steps() {
            if (steps[order] != null) {
                return steps[order];
            }
            int[] far = new int[3001];
            java.util.Arrays.fill(far, -1);
            far[0] = 0;
            List<Integer> reached = new ArrayList<>(List.of(0));
            for (int i = 0; i < reached.size(); i++) {
                for (int letter = 1; letter <= 26; letter++) {
                    int next = reached.get(i) + worth(letter);
                    if (next <= 3000 && far[next] < 0) {
                        far[next] = far[reached.get(i)] + 1;
                        reached.add(next);
                    }
                }
            }
            steps[order] = far;
            return far;
        }

        /** The letters of a spelling go down, as each is the greatest with which it can be done. */
        private int spell(int year, int place) {
            int[] far = steps();
            List<Integer> spelling = new ArrayList<>();
            int left = year;
            while (far[year] > 0 && left > 0) {
                int letter = 26;
                while (worth(letter) > left || far[left - worth(letter)] != far[left] - 1) {
                    letter--;
                }
                spelling.add(letter);
                left -= worth(letter);
            }
            return place < spelling.size() ? spelling.get(place) : 0;
        }

        private long digest() {
            List<Integer> numbers = new ArrayList<>();
            numbers.add(order);
            for (int what = 0; what < 7; what++) {
                numbers.add(told(what));
            }
            for (List<Word> words : lines) {
                for (int what = 0; what < 5; what++) {
                    numbers.add(line(words, what));
                }
                for (Word word : words) {
                    for (int what = 0; what < 5; what++) {
                        numbers.add(word(word, what));
                    }
                }
            }
            long d = 1297;
            for (int number : numbers) {
                d = d * 31 + number;
            }
            return d;
        }
    }
}
