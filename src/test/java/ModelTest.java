import java.lang.reflect.InvocationTargetException;
import java.lang.reflect.Method;
import java.util.ArrayList;
import java.util.Arrays;
import java.util.LinkedHashMap;
import java.util.List;
import java.util.Map;

/**
 * Long runs of calls, made by a fixed row of numbers, on a Touchpress and on a second, plainer house (Model) that
 * lays out, writes and reads anew at each call; every answer and every exception must be the same.
 */
public final class ModelTest {
    private static int wrong = 0;

    public static void main(String[] args) throws Exception {
        int runs = args.length > 0 ? Integer.parseInt(args[0]) : 300;
        long calls = 0;
        for (int run = 0; run < runs && wrong < 20; run++) {
            Run made = new Run(run);
            made.go();
            calls += made.calls;
        }
        System.out.println(runs + " runs, " + calls + " calls, " + wrong + " answers are not the model's");
        if (wrong != 0) {
            System.exit(1);
        }
    }

    // ---- the runs

    private static final class Run {
        private static final Map<String, Method> REAL = new LinkedHashMap<>();
        private static final Map<String, Method> PLAIN = new LinkedHashMap<>();
        static {
            for (Method m : Touchpress.class.getMethods()) {
                if (m.getDeclaringClass() == Touchpress.class) {
                    REAL.put(m.getName(), m);
                }
            }
            for (Method m : Model.class.getMethods()) {
                if (m.getDeclaringClass() == Model.class) {
                    PLAIN.put(m.getName(), m);
                }
            }
            if (!REAL.keySet().containsAll(PLAIN.keySet()) || !PLAIN.keySet().containsAll(REAL.keySet())) {
                throw new IllegalStateException("the model has not the face");
            }
        }

        final Touchpress real = new Touchpress();
        final Model plain = new Model();
        final int run;
        long seed;
        int calls = 0;
        final StringBuilder told = new StringBuilder();
        final String alphabet;
        final int[] cellPool;

        Run(int run) {
            this.run = run;
            seed = run * 7919L + 17;
            alphabet = pick("ab", "abc", "abcde", "theingcoar", "abcdefghijklmnopqrstuvwxyz");
            cellPool = new int[3 + below(12)];
            for (int i = 0; i < cellPool.length; i++) {
                cellPool[i] = below(3) == 0 ? 1 + below(63) : Model.letter((char) ('a' + below(below(2) == 0 ? 4 : 26)));
            }
        }

        int below(int n) {
            seed = seed * 6364136223846793005L + 1442695040888963407L;
            return (int) ((seed >>> 33) % n);
        }

        String pick(String... of) {
            return of[below(of.length)];
        }

        long call(String name, Object... args) {
            if (calls >= 512 || wrong >= 20) {
                return 0;
            }
            calls++;
            Object one = answer(REAL.get(name), real, args);
            Object other = answer(PLAIN.get(name), plain, args);
            told.append(name).append(Arrays.toString(args)).append(" -> ").append(one).append('\n');
            if (!one.equals(other)) {
                wrong++;
                System.out.println("run " + run + ", call " + calls + ": " + name + Arrays.toString(args) + " answered " + one
                    + ", the model " + other);
                if (wrong == 1) {
                    System.out.println(told);
                }
            }
            return other instanceof Integer ? (Integer) other : 0;
        }

        private static Object answer(Method method, Object on, Object[] args) {
            try {
                return method.invoke(on, args);
            } catch (InvocationTargetException e) {
                return e.getCause().getClass();
            } catch (IllegalAccessException e) {
                throw new IllegalStateException(e);
            }
        }

        // ---- arguments: mostly good ones, at times just beside

        int number(int count) {
            return below(25) == 0 ? pickInt(-1, count, count + 1, Integer.MAX_VALUE, Integer.MIN_VALUE) : below(Math.max(1, count));
        }

        int pickInt(int... of) {
            return of[below(of.length)];
        }

        int grade() {
            return below(25) == 0 ? pickInt(-1, 4, Integer.MAX_VALUE) : below(4) == 0 ? below(4) : 2 + below(2);
        }

        void text(String s) {
            for (int i = 0; i < s.length();) {
                int n = Math.min(s.length() - i, 1 + below(8));
                long packed = 0;
                for (int k = 0; k < n; k++) {
                    packed |= (long) s.charAt(i + k) << 8 * k;
                }
                if (n < 8 && below(4) == 0) {
                    packed |= (long) below(256) << 8 * n;
                }
                call("type", packed, n);
                i += n;
            }
        }

        void clean() {
            if (plain.tape.length() > 0) {
                call("wipe");
            }
        }

        String letters(int fewest, int most) {
            StringBuilder s = new StringBuilder();
            int n = fewest + below(most - fewest + 1);
            while (s.length() < n) {
                if (below(3) == 0 && !plain.codes.isEmpty()) {
                    List<Model.Con> code = plain.codes.get(below(plain.codes.size()));
                    if (!code.isEmpty()) {
                        s.append(code.get(below(code.size())).letters);
                        continue;
                    }
                }
                s.append(alphabet.charAt(below(alphabet.length())));
            }
            return s.substring(0, n);
        }

        String word() {
            String core;
            List<String> divided = new ArrayList<>(plain.divisions.keySet());
            if (below(7) == 0) {
                core = "";
                int n = 1 + below(6);
                for (int i = 0; i < n; i++) {
                    core += below(10);
                }
            } else {
                core = below(3) == 0 && !divided.isEmpty() ? divided.get(below(divided.size())) : letters(1, 10);
                if (below(5) == 0) {
                    core = core.toUpperCase();
                } else if (below(5) == 0) {
                    core = core.substring(0, 1).toUpperCase() + core.substring(1);
                }
            }
            return (below(6) == 0 ? "*" : "") + core + (below(4) == 0 ? pick(",", ".", ";", "?") : "");
        }

        String words(int most, int bars) {
            StringBuilder s = new StringBuilder(word());
            for (int i = 1; i < most; i++) {
                String next = below(bars) == 0 ? pick("/", "|", "|") : " ";
                next += word();
                if (s.length() + next.length() > 60) {
                    break;
                }
                s.append(next);
            }
            return s.toString();
        }

        String formula(int depth) {
            switch (depth <= 0 ? below(2) : below(9)) {
                case 0: return "" + (char) ('a' + below(26));
                case 1: return "" + below(pickInt(10, 100, 1000, 10000));
                case 2: return "(" + formula(depth - 1) + ")";
                case 3: return formula(depth - 1) + "^" + formula(depth - 1);
                case 4: return formula(depth - 1) + "/" + formula(depth - 1);
                case 5: return formula(depth - 1) + "." + formula(depth - 1);
                case 6: return formula(depth - 1) + "-" + formula(depth - 1);
                case 7: return "(" + formula(depth - 1) + ")" + pick("+", "-", ".", "/", "^") + formula(depth - 1);
                default: return formula(depth - 1) + pick("+", "-", ".", "/", "^") + "(" + formula(depth - 1) + ")";
            }
        }

        String spoiled(String s, String with) {
            StringBuilder t = new StringBuilder(s);
            int place = below(t.length() + 1);
            if (below(2) == 0 || t.length() == 0) {
                t.insert(place, with.charAt(below(with.length())));
            } else if (below(2) == 0) {
                t.deleteCharAt(Math.min(place, t.length() - 1));
            } else {
                t.setLength(place);
            }
            return t.length() > 60 ? t.substring(0, 60) : t.toString();
        }

        // ---- what a run does

        void go() {
            for (int i = 0; i < 1 + below(3); i++) {
                call("code");
            }
            for (int i = below(30); i > 0; i--) {
                makeContraction();
            }
            for (int i = below(8); i > 0; i--) {
                divide();
            }
            for (int i = 0; i < 1 + below(4); i++) {
                begin();
            }
            for (int i = below(6); i > 0; i--) {
                call("reader", number(3));
            }
            int kind = below(5);
            while (calls < 512 && wrong < 20) {
                switch (below(20)) {
                    case 0: oddCall(); break;
                    case 1: makeContraction(); break;
                    case 2: divide(); break;
                    case 3: case 4: askWord(); break;
                    case 5: askFormula(); break;
                    default:
                        switch (kind) {
                            case 0: askWord(); break;
                            case 1: askFormula(); break;
                            case 2: fill(); askBook(); break;
                            case 3: fill(); printCopies(); break;
                            default: fill(); lend(); break;
                        }
                }
            }
        }

        void makeContraction() {
            clean();
            text(below(20) == 0 ? pick("a", "abcdefg", "aB", "ab.", "a b") : letters(2, below(4) == 0 ? 6 : 3));
            int first = below(15) == 0 ? pickInt(-1, 0, 2, 6, 32, 36, 38, 40, 48, 50, 60, 64) : cellPool[below(cellPool.length)];
            int second = below(3) == 0 ? below(5) == 0 ? pickInt(-1, 2, 6, 32, 36, 38, 40, 48, 50, 60, 64) : cellPool[below(cellPool.length)] : 0;
            call("contraction", number(plain.codes.size()), below(20) == 0 ? pickInt(0, 4) : 1 + below(3),
                below(20) == 0 ? pickInt(-1, 5) : below(2) == 0 ? 0 : below(5), first, second);
        }

        void divide() {
            clean();
            String s = letters(1, 4);
            for (int i = 1 + below(3); i > 0; i--) {
                s += " " + letters(1, 3);
            }
            text(below(15) == 0 ? spoiled(s, "aB*,/| ") : s);
            call("division");
        }

        void begin() {
            call("book", number(plain.codes.size()), grade(), below(20) == 0 ? pickInt(17, 41) : below(2) == 0 ? 18 + below(4) : 18 + below(23),
                below(20) == 0 ? pickInt(2, 26) : below(3) > 0 ? 3 + below(3) : 3 + below(23), below(2) == 0);
        }

        void askWord() {
            clean();
            String s = word();
            if (below(10) == 0) {
                s = spoiled(words(3, 3), "abA1*,.;?/| +^(");
            }
            text(s);
            if (below(3) == 0) {
                call("fault");
            }
            int code = number(plain.codes.size());
            int grade = grade();
            int size = (int) call("size", code, grade);
            for (int i = 0; i <= size; i++) {
                if (below(3) > 0) {
                    call("cell", code, grade, below(20) == 0 ? -1 : i);
                }
            }
            call("isMarked", code, grade);
            call("least", code, grade());
            call("ways", code, grade());
            call("readings", code, grade);
        }

        void askFormula() {
            clean();
            String s = formula(1 + below(4));
            if (s.length() > 60) {
                s = s.substring(0, 60);
            }
            if (below(4) == 0) {
                s = spoiled(s, "ab1+-./^()*A,");
            }
            if (below(20) == 0) {
                s = "(".repeat(below(30)) + s + ")".repeat(below(30));
                s = s.substring(0, Math.min(60, s.length()));
            }
            text(s);
            call("formulaFault");
            if (below(3) == 0) {
                call("fault");
            }
            for (int which = 0; which < 2; which++) {
                int size = (int) call("formulaCells", which);
                for (int i = 0; i <= size; i++) {
                    if (below(3) == 0) {
                        call("formulaCell", which, i);
                    }
                }
                call("isReadBack", which);
            }
            if (below(10) == 0) {
                call("formulaCells", pickInt(-1, 2));
                call("formulaCell", pickInt(-1, 0, 1, 2), pickInt(-1, 0, 1000));
                call("isReadBack", pickInt(-1, 2));
            }
        }

        void fill() {
            clean();
            int bars = pickInt(2, 4, 8);
            for (int i = below(4); i > 0; i--) {
                String s = words(20, bars);
                text(below(25) == 0 ? spoiled(s, "aA1*, /|+") : s);
                call("add", number(plain.books.size()));
                clean();
            }
        }

        void askBook() {
            int book = number(plain.books.size());
            for (int what = -1; what <= 6; what++) {
                if (below(2) == 0 && (what >= 0 && what < 6 || below(10) == 0)) {
                    call("ofBook", book, what);
                }
            }
            if (book < 0 || book >= plain.books.size()) {
                call("word", book, 0, 0);
                call("at", book, 0, 0, 0);
                return;
            }
            Model.Bk b = plain.books.get(book);
            for (int i = 0; i < 12; i++) {
                call("word", book, number(b.words.size()), below(40) == 0 ? pickInt(-1, 8) : below(8));
            }
            int pages = plain.pagesOf(b);
            for (int i = 0; i < 25; i++) {
                call("at", book, number(pages), number(b.height), number(b.width));
            }
        }

        void printCopies() {
            int embosser = number(3);
            if (below(3) == 0) {
                call("renew", embosser, number(6), below(10) == 0 ? pickInt(0, 100001, 100000, 1) : 1 + below(pickInt(10, 200, 2000)));
            }
            int book = number(plain.books.size());
            if (below(3) == 0) {
                call("emboss", embosser, book);
            }
            call("sheets");
            for (int i = 0; i < 8; i++) {
                int copy = number(plain.copies.size());
                call("ofCopy", copy, below(30) == 0 ? pickInt(-1, 7) : below(7));
                if (copy >= 0 && copy < plain.copies.size()) {
                    Model.Bk b = plain.copies.get(copy).book;
                    call("felt", copy, number(plain.pagesOf(b)), number(b.height), number(b.width));
                } else {
                    call("felt", copy, 0, 0, 0);
                }
            }
        }

        void lend() {
            int readers = plain.readers.size();
            int books = plain.books.size();
            for (int i = 0; i < 4; i++) {
                if (below(4) == 0 && readers > 0) {
                    int code = below(plain.codes.size());
                    int reader = below(readers);
                    for (int k = 0; k < plain.codes.get(code).size(); k++) {
                        call("teach", reader, code, k);
                    }
                }
                call("teach", number(readers), number(plain.codes.size()), number(24));
                call("unknown", number(readers), number(books));
            }
            if (below(3) > 0) {
                call("emboss", number(3), number(books));
            }
            for (int i = 0; i < 6; i++) {
                call("wish", number(readers), number(books));
                call("ahead", number(readers), number(books));
            }
            if (below(3) == 0) {
                call("secret", number(books), below(15) == 0 ? pickInt(-1, 1001, 1000) : plain.day + below(30),
                    below(15) == 0 ? pickInt(-1, 64, 63) : below(64));
            }
            call("pass", below(15) == 0 ? pickInt(0, 101, 100) : 1 + below(pickInt(1, 3, 25, 60)));
            call("day");
            for (int i = 0; i < 4; i++) {
                call("late", number(readers));
                int copy = number(plain.copies.size());
                call("ofCopy", copy, below(7));
                if (below(2) == 0) {
                    call("giveBack", copy, below(3) > 0 ? -1 : copy >= 0 && copy < plain.copies.size()
                        ? number(plain.pagesOf(plain.copies.get(copy).book)) : -2);
                }
            }
        }

        void oddCall() {
            switch (below(8)) {
                case 0: call("type", (long) pickInt('~', 0, 200, '!', 10, 'a', '*'), pickInt(0, 1, 1, 9, -1)); break;
                case 1: call("code"); break;
                case 2: begin(); break;
                case 3: call("reader", pickInt(-1, 0, 1, 2, 3)); break;
                case 4: call("renew", pickInt(-1, 3, 0), pickInt(-1, 6, 0), pickInt(0, 1, 100001)); break;
                case 5: call("fault"); call("formulaFault"); break;
                case 6: call("pass", pickInt(0, -5, 101, 1)); break;
                default: text("a".repeat(1 + below(61))); break;
            }
        }
    }

    // ---- the model

    /** The document again, as plainly as can be, without a thought of time or room. */
    public static final class Model {
        record Con(String letters, int grade, int place, List<Integer> cells) { }

        record Unit(int contraction, String letters, List<Integer> cells) { }

        static final class Bk {
            int code, grade, width, height, secretDay, secretReaders;
            boolean both;
            final List<String> words = new ArrayList<>();
            final List<Character> before = new ArrayList<>();
        }

        static final class Cp {
            Bk book;
            int[][] lines;
            int missing, reader = -1, due = -1, sent;
            final java.util.TreeSet<Integer> hurt = new java.util.TreeSet<>();
        }

        String tape = "";
        final List<List<Con>> codes = new ArrayList<>();
        final Map<String, List<String>> divisions = new LinkedHashMap<>();
        final List<Bk> books = new ArrayList<>();
        final int[][] left = new int[3][6];
        final List<Cp> copies = new ArrayList<>();
        final List<Integer> readers = new ArrayList<>();
        final List<java.util.Set<String>> knows = new ArrayList<>();
        final List<Integer> lateSoFar = new ArrayList<>();
        final List<int[]> waiting = new ArrayList<>();
        int day = 0;

        public Model() {
            for (int[] l : left) {
                Arrays.fill(l, 1000);
            }
        }

        static int letter(char c) {
            int[] all = {1, 3, 9, 25, 17, 11, 27, 19, 10, 26, 5, 7, 13, 29, 21, 15, 31, 23, 14, 30, 37, 39, 58, 45, 61, 53};
            return all[c - 'a'];
        }

        static int digit(char c) {
            return letter("jabcdefghi".charAt(c - '0'));
        }

        static void bounds(boolean good) {
            if (!good) {
                throw new IndexOutOfBoundsException();
            }
        }

        static void argument(boolean good) {
            if (!good) {
                throw new IllegalArgumentException();
            }
        }

        static void state(boolean good) {
            if (!good) {
                throw new IllegalStateException();
            }
        }

        // -- tape

        public int type(long characters, int n) {
            argument(n >= 1 && n <= 8);
            String s = "";
            for (int i = 0; i < n; i++) {
                s += (char) (characters >> 8 * i & 255);
            }
            argument(s.matches("[A-Za-z0-9 ,.;?*/|+\\-^()]*"));
            state((tape + s).length() <= 60);
            tape += s;
            return tape.length();
        }

        public int wipe() {
            int n = tape.length();
            tape = "";
            return n;
        }

        static final String WORD = "\\*?([a-z]{1,10}|[A-Z][a-z]{0,9}|[A-Z]{1,10}|[0-9]{1,6})[,.;?]?";

        static boolean isText(String s) {
            return s.matches(WORD + "([ /|]" + WORD + ")*");
        }

        public int fault() {
            for (int i = 1; i <= tape.length(); i++) {
                String s = tape.substring(0, i);
                if (!isText(s) && !isText(s + "a")) {
                    return i - 1;
                }
            }
            return isText(tape) ? -1 : tape.length();
        }

        // -- codes

        public int code() {
            state(codes.size() < 3);
            codes.add(new ArrayList<>());
            return codes.size() - 1;
        }

        static boolean allowed(int cell) {
            return cell >= 1 && cell <= 63 && !List.of(40, 32, 48, 60, 36, 2, 6, 38, 50).contains(cell);
        }

        public int contraction(int code, int grade, int place, int first, int second) {
            bounds(code >= 0 && code < codes.size());
            argument(tape.matches("[a-z]{2,6}"));
            argument(grade >= 1 && grade <= 3 && place >= 0 && place <= 4);
            argument(allowed(first) && (second == 0 || allowed(second)));
            state(codes.get(code).size() < 24);
            for (Bk b : books) {
                state(b.code != code || b.words.isEmpty());
            }
            codes.get(code).add(new Con(tape, grade, place, second == 0 ? List.of(first) : List.of(first, second)));
            tape = "";
            return codes.get(code).size() - 1;
        }

        public int division() {
            argument(tape.matches("[a-z]+( [a-z]+){1,3}") && tape.replace(" ", "").length() <= 10);
            String whole = tape.replace(" ", "");
            state(divisions.size() < 12 && !divisions.containsKey(whole));
            for (Bk b : books) {
                state(b.words.isEmpty());
            }
            divisions.put(whole, List.of(tape.split(" ")));
            tape = "";
            return whole.length();
        }

        // -- writing and reading

        static boolean fits(int place, int from, int length, int all) {
            if (length == all) {
                return place == 0 || place == 1;
            }
            return place == 0 || place == (from == 0 ? 2 : from + length == all ? 4 : 3);
        }

        List<String> partsOf(String letters) {
            return divisions.getOrDefault(letters, List.of(letters));
        }

        /** The units that can stand at a place of letters: contractions by their numbers, then the letter. */
        List<Unit> unitsAt(int code, int grade, String letters, int from) {
            int end = 0;
            for (String part : partsOf(letters)) {
                end += part.length();
                if (end > from) {
                    break;
                }
            }
            List<Unit> all = new ArrayList<>();
            for (int i = 0; i < codes.get(code).size(); i++) {
                Con c = codes.get(code).get(i);
                if (c.grade <= grade && letters.startsWith(c.letters, from) && from + c.letters.length() <= end
                        && fits(c.place, from, c.letters.length(), letters.length())) {
                    all.add(new Unit(i, c.letters, c.cells));
                }
            }
            String one = letters.substring(from, from + 1);
            all.add(new Unit(-1, one, List.of(letter(one.charAt(0)))));
            return all;
        }

        List<Unit> readsAt(int code, int grade, List<Integer> cells, int from) {
            List<Unit> all = new ArrayList<>();
            for (int i = 0; i < codes.get(code).size(); i++) {
                Con c = codes.get(code).get(i);
                int end = from + c.cells.size();
                if (c.grade <= grade && end <= cells.size() && cells.subList(from, end).equals(c.cells)
                        && fits(c.place, from, c.cells.size(), cells.size())) {
                    all.add(new Unit(i, c.letters, c.cells));
                }
            }
            for (char c = 'a'; c <= 'z'; c++) {
                if (letter(c) == cells.get(from)) {
                    all.add(new Unit(-1, "" + c, List.of(letter(c))));
                }
            }
            return all;
        }

        List<Unit> unitsOf(int code, int grade, String letters) {
            List<Unit> row = new ArrayList<>();
            for (int from = 0; from < letters.length();) {
                Unit best = null;
                for (Unit u : unitsAt(code, grade, letters, from)) {
                    if (best == null || u.letters.length() > best.letters.length()) {
                        best = u;
                    }
                }
                row.add(best);
                from += best.letters.length();
            }
            return row;
        }

        static List<Integer> cellsOf(List<Unit> row) {
            List<Integer> cells = new ArrayList<>();
            for (Unit u : row) {
                cells.addAll(u.cells);
            }
            return cells;
        }

        /** Null if they are not read. */
        String readLetters(int code, int grade, List<Integer> cells) {
            String s = "";
            for (int from = 0; from < cells.size();) {
                Unit best = null;
                for (Unit u : readsAt(code, grade, cells, from)) {
                    if (best == null || u.cells.size() > best.cells.size()) {
                        best = u;
                    }
                }
                if (best == null) {
                    return null;
                }
                s += best.letters;
                from += best.cells.size();
            }
            return s.isEmpty() ? null : s;
        }

        static String core(String word) {
            return word.replaceAll("[*,.;?]", "");
        }

        boolean isMarkedWord(int code, int grade, String word) {
            String letters = core(word).toLowerCase();
            return !letters.matches("[0-9]+")
                && !letters.equals(readLetters(code, grade, cellsOf(unitsOf(code, grade, letters))));
        }

        /** The cells of each part: of undivided letters and digits there is one. */
        List<List<Integer>> written(int code, int grade, String word) {
            String core = core(word);
            String letters = core.toLowerCase();
            List<List<Integer>> parts = new ArrayList<>();
            List<Integer> part = new ArrayList<>();
            if (word.startsWith("*")) {
                part.add(40);
            }
            if (core.matches("[0-9]+")) {
                part.add(60);
                for (char c : core.toCharArray()) {
                    part.add(digit(c));
                }
                parts.add(part);
            } else {
                if (core.matches("[A-Z]{2,}")) {
                    part.addAll(List.of(32, 32));
                } else if (core.matches("[A-Z].*")) {
                    part.add(32);
                }
                boolean marked = isMarkedWord(code, grade, word);
                if (marked) {
                    part.add(48);
                }
                List<Unit> row = unitsOf(code, marked ? 0 : grade, letters);
                int at = 0;
                for (String s : partsOf(letters)) {
                    for (int n = 0; n < s.length();) {
                        Unit u = row.get(at++);
                        n += u.letters.length();
                        part.addAll(u.cells);
                    }
                    parts.add(part);
                    part = new ArrayList<>();
                }
            }
            if (word.matches(".*[,.;?]")) {
                parts.get(parts.size() - 1).add(new int[] {2, 6, 38, 50}[",;?.".indexOf(word.charAt(word.length() - 1))]);
            }
            return parts;
        }

        static List<Integer> joined(List<List<Integer>> parts) {
            List<Integer> all = new ArrayList<>();
            for (List<Integer> p : parts) {
                all.addAll(p);
            }
            return all;
        }

        /** The word that cells are read as, in the writing of the tape; null if they are read as none. */
        String readWord(int code, int grade, List<Integer> row) {
            List<Integer> cells = new ArrayList<>(row);
            String star = "";
            if (!cells.isEmpty() && cells.get(0) == 40) {
                star = "*";
                cells.remove(0);
            }
            int great = 0;
            while (great < 2 && !cells.isEmpty() && cells.get(0) == 32) {
                great++;
                cells.remove(0);
            }
            String mark = "";
            if (cells.size() > 1) {
                int k = List.of(2, 6, 38, 50).indexOf(cells.get(cells.size() - 1));
                if (k >= 0) {
                    mark = ",;?.".substring(k, k + 1);
                    cells.remove(cells.size() - 1);
                }
            }
            if (cells.isEmpty()) {
                return null;
            }
            String core = "";
            if (cells.get(0) == 60 || cells.get(0) == 48) {
                for (int c : cells.subList(1, cells.size())) {
                    String s = "";
                    for (char k = '0'; k <= '9' && cells.get(0) == 60; k++) {
                        s += digit(k) == c ? "" + k : "";
                    }
                    for (char k = 'a'; k <= 'z' && cells.get(0) == 48; k++) {
                        s += letter(k) == c ? "" + k : "";
                    }
                    if (s.isEmpty()) {
                        return null;
                    }
                    core += s;
                }
            } else {
                core = readLetters(code, grade, cells);
            }
            if (core == null || core.isEmpty()) {
                return null;
            }
            core = great == 2 ? core.toUpperCase() : great == 1 ? core.substring(0, 1).toUpperCase() + core.substring(1) : core;
            return star + core + mark;
        }

        // -- one word

        String oneWord(int code, int grade, boolean hasLetters) {
            bounds(code >= 0 && code < codes.size());
            argument(grade >= 0 && grade <= 3);
            state(tape.matches(WORD));
            state(!hasLetters || !core(tape).matches("[0-9]+"));
            return core(tape).toLowerCase();
        }

        public int size(int code, int grade) {
            oneWord(code, grade, false);
            return joined(written(code, grade, tape)).size();
        }

        public int cell(int code, int grade, int place) {
            bounds(place >= 0);
            oneWord(code, grade, false);
            List<Integer> all = joined(written(code, grade, tape));
            return place < all.size() ? all.get(place) : -1;
        }

        public boolean isMarked(int code, int grade) {
            oneWord(code, grade, false);
            return isMarkedWord(code, grade, tape);
        }

        public int least(int code, int grade) {
            return fewest(code, grade, oneWord(code, grade, true), 0);
        }

        int fewest(int code, int grade, String letters, int from) {
            int best = from == letters.length() ? 0 : 1000;
            if (from < letters.length()) {
                for (Unit u : unitsAt(code, grade, letters, from)) {
                    best = Math.min(best, u.cells.size() + fewest(code, grade, letters, from + u.letters.length()));
                }
            }
            return best;
        }

        public long ways(int code, int grade) {
            String letters = oneWord(code, grade, true);
            long[] ways = new long[letters.length() + 1];
            ways[0] = 1;
            for (int from = 0; from < letters.length(); from++) {
                for (Unit u : unitsAt(code, grade, letters, from)) {
                    ways[from + u.letters.length()] += ways[from];
                }
            }
            return ways[letters.length()];
        }

        public long readings(int code, int grade) {
            List<Integer> cells = cellsOf(unitsOf(code, grade, oneWord(code, grade, true)));
            long[] ways = new long[cells.size() + 1];
            ways[0] = 1;
            for (int from = 0; from < cells.size(); from++) {
                for (Unit u : readsAt(code, grade, cells, from)) {
                    ways[from + u.cells.size()] += ways[from];
                }
            }
            return ways[cells.size()];
        }

        // -- formulas: trees as texts with all brackets, written by their outermost sign

        static final class Reader {
            final String s;
            int at = 0;

            Reader(String s) {
                this.s = s;
            }

            boolean sees(String any) {
                return at < s.length() && any.indexOf(s.charAt(at)) >= 0;
            }

            Object[] row(String signs, java.util.function.Supplier<Object[]> part) {
                Object[] left = part.get();
                while (left != null && sees(signs)) {
                    char sign = s.charAt(at++);
                    Object[] right = part.get();
                    left = right == null ? null : new Object[] {sign, left, right};
                }
                return left;
            }

            Object[] sum() {
                return row("+-", () -> row("./", this::power));
            }

            Object[] power() {
                Object[] a = atom();
                if (a != null && sees("^")) {
                    at++;
                    Object[] b = power();
                    return b == null ? null : new Object[] {'^', a, b};
                }
                return a;
            }

            Object[] atom() {
                if (sees("(")) {
                    at++;
                    Object[] in = sum();
                    if (!sees(")")) {
                        return null;
                    }
                    at++;
                    return in;
                }
                int from = at;
                if (sees("abcdefghijklmnopqrstuvwxyz")) {
                    at++;
                } else {
                    while (at < from + 4 && sees("0123456789")) {
                        at++;
                    }
                }
                return at == from ? null : new Object[] {s.substring(from, at)};
            }
        }

        static Object[] tree(String s) {
            Reader r = new Reader(s);
            Object[] t = r.sum();
            return r.at == s.length() ? t : null;
        }

        public int formulaFault() {
            int thirteenth = 1000;
            java.util.regex.Matcher m = java.util.regex.Pattern.compile("[a-z]|[0-9]{1,4}").matcher(tape);
            for (int i = 0; i < 13; i++) {
                if (!m.find()) {
                    break;
                }
                if (i == 12) {
                    thirteenth = m.start();
                }
            }
            for (int i = 1; i <= tape.length(); i++) {
                String s = tape.substring(0, i);
                boolean can = i - 1 < thirteenth;
                boolean any = false;
                for (int k = 0; k <= 60 && can && !any; k++) {
                    any = tree(s + ")".repeat(k)) != null || tree(s + "a" + ")".repeat(k)) != null;
                }
                if (!any) {
                    return i - 1;
                }
            }
            return tree(tape) != null ? -1 : tape.length();
        }

        static List<Integer> formulaWritten(int which, Object[] t) {
            List<Integer> cells = new ArrayList<>();
            if (t.length == 1) {
                String s = (String) t[0];
                if (Character.isDigit(s.charAt(0))) {
                    cells.add(60);
                    for (char c : s.toCharArray()) {
                        cells.add(digit(c));
                    }
                } else {
                    cells.add(letter(s.charAt(0)));
                }
                return cells;
            }
            char sign = (Character) t[0];
            List<Integer> a = formulaWritten(which, (Object[]) t[1]);
            List<Integer> b = formulaWritten(which, (Object[]) t[2]);
            boolean aIn = brackets(which, sign, (Object[]) t[1], true);
            boolean bIn = brackets(which, sign, (Object[]) t[2], false);
            if (which == 1 && sign == '/') {
                cells.add(55);
                cells.addAll(a);
                cells.add(12);
                cells.addAll(b);
                cells.add(62);
                return cells;
            }
            cells.addAll(aIn ? around(a) : a);
            if (which == 1 && sign == '^') {
                cells.add(24);
                cells.addAll(b);
                cells.add(16);
                return cells;
            }
            cells.add(new int[] {22, 36, 20, 12, 34}["+-./^".indexOf(sign)]);
            cells.addAll(bIn ? around(b) : b);
            return cells;
        }

        static List<Integer> around(List<Integer> a) {
            List<Integer> cells = new ArrayList<>();
            cells.add(35);
            cells.addAll(a);
            cells.add(28);
            return cells;
        }

        static boolean brackets(int which, char sign, Object[] part, boolean isLeft) {
            if (part.length == 1) {
                return false;
            }
            char inner = (Character) part[0];
            if (which == 1 && inner == '/') {
                return false;
            }
            boolean sum = "+-".indexOf(inner) >= 0;
            boolean product = "./".indexOf(inner) >= 0;
            if (sum) {
                return "+-".indexOf(sign) < 0 || !isLeft;
            }
            if (product) {
                return sign == '^' || "./".indexOf(sign) >= 0 && !isLeft;
            }
            return sign == '^' && isLeft;
        }

        List<Integer> formulaOnTape(int which) {
            state(formulaFault() == -1);
            return formulaWritten(which, tree(tape));
        }

        public int formulaCells(int which) {
            argument(which == 0 || which == 1);
            return formulaOnTape(which).size();
        }

        public int formulaCell(int which, int place) {
            argument(which == 0 || which == 1);
            bounds(place >= 0);
            List<Integer> all = formulaOnTape(which);
            return place < all.size() ? all.get(place) : -1;
        }

        public boolean isReadBack(int which) {
            argument(which == 0 || which == 1);
            String s = "";
            boolean digits = false;
            for (int c : formulaOnTape(which)) {
                int k = List.of(22, 36, 20, 12, 34, 35, 28).indexOf(c);
                if (c == 60) {
                    digits = true;
                } else if (k >= 0) {
                    // A fraction and what is raised to are read as if they stood in brackets.
                    s += which == 1 && c == 12 ? ")/(" : "+-./^()".substring(k, k + 1);
                    digits = false;
                } else if (c == 55 || c == 62 || c == 24 || c == 16) {
                    s += c == 55 ? "((" : c == 62 ? "))" : c == 24 ? "^(" : ")";
                    digits = false;
                } else {
                    for (char l = 'a'; l <= 'z'; l++) {
                        s += letter(l) == c ? digits ? "" + "1234567890".charAt(l - 'a') : "" + l : "";
                    }
                }
            }
            return Arrays.deepEquals(tree(s), tree(tape));
        }

        // -- books: all lines anew at each call

        static final class Line {
            final List<Integer> cells = new ArrayList<>();
            final int print;

            Line(int print) {
                this.print = print;
            }

            void to(int place) {
                while (cells.size() < place) {
                    cells.add(0);
                }
            }
        }

        static final class Laid {
            final List<Line> lines = new ArrayList<>();
            final List<int[]> words = new ArrayList<>();
            int print = 1;
        }

        static List<Integer> number(int n) {
            List<Integer> cells = new ArrayList<>(List.of(60));
            for (char c : ("" + n).toCharArray()) {
                cells.add(digit(c));
            }
            return cells;
        }

        /** For each word: its line, place, parts there, print page, cells there. */
        Laid lay(Bk b) {
            Laid laid = new Laid();
            int perPage = b.height - 1;
            for (int i = 0; i < b.words.size(); i++) {
                List<List<Integer>> parts = written(b.code, b.grade, b.words.get(i));
                char before = b.before.get(i);
                int there = parts.size();
                if (before == '|') {
                    if (laid.lines.size() % perPage == perPage - 1) {
                        laid.lines.add(new Line(laid.print));
                    }
                    laid.print++;
                    Line bar = new Line(laid.print);
                    List<Integer> n = number(laid.print);
                    while (bar.cells.size() < b.width - n.size()) {
                        bar.cells.add(36);
                    }
                    bar.cells.addAll(n);
                    laid.lines.add(bar);
                }
                if (before != ' ') {
                    laid.lines.add(new Line(laid.print));
                    last(laid).to(before == '/' ? 2 : 0);
                } else {
                    int from = last(laid).cells.size() + 1;
                    while (there > 0 && from + joined(parts.subList(0, there)).size() + (there < parts.size() ? 1 : 0) > b.width) {
                        there--;
                    }
                    if (there == 0) {
                        laid.lines.add(new Line(laid.print));
                        there = parts.size();
                    } else {
                        last(laid).to(from);
                    }
                }
                List<Integer> here = joined(parts.subList(0, there));
                laid.words.add(new int[] {laid.lines.size() - 1, last(laid).cells.size(), there, laid.print, here.size()});
                last(laid).cells.addAll(here);
                if (there < parts.size()) {
                    last(laid).cells.add(36);
                    laid.lines.add(new Line(laid.print));
                    last(laid).cells.addAll(joined(parts.subList(there, parts.size())));
                }
            }
            return laid;
        }

        static Line last(Laid laid) {
            return laid.lines.get(laid.lines.size() - 1);
        }

        int pagesOf(Bk b) {
            return (lay(b).lines.size() + b.height - 2) / (b.height - 1);
        }

        /** All cells: a row for each line of each page, also those that the last page has not. */
        int[][] cellsOf(Bk b) {
            Laid laid = lay(b);
            int perPage = b.height - 1;
            int pages = pagesOf(b);
            int[][] rows = new int[pages * b.height][b.width];
            for (int page = 0; page < pages; page++) {
                int[] head = rows[page * b.height];
                List<Integer> print = number(laid.lines.get(page * perPage).print);
                List<Integer> own = number(page + 1);
                for (int i = 0; i < print.size(); i++) {
                    head[i] = print.get(i);
                }
                for (int i = 0; i < own.size(); i++) {
                    head[b.width - own.size() + i] = own.get(i);
                }
                for (int k = 0; k < perPage && page * perPage + k < laid.lines.size(); k++) {
                    List<Integer> line = laid.lines.get(page * perPage + k).cells;
                    for (int i = 0; i < line.size(); i++) {
                        rows[page * b.height + 1 + k][i] = line.get(i);
                    }
                }
            }
            return rows;
        }

        public int book(int code, int grade, int width, int height, boolean isBoth) {
            bounds(code >= 0 && code < codes.size());
            argument(grade >= 0 && grade <= 3 && width >= 18 && width <= 40 && height >= 3 && height <= 25);
            state(books.size() < 4);
            Bk b = new Bk();
            b.code = code;
            b.grade = grade;
            b.width = width;
            b.height = height;
            b.both = isBoth;
            books.add(b);
            return books.size() - 1;
        }

        Bk bk(int book) {
            bounds(book >= 0 && book < books.size());
            return books.get(book);
        }

        int copiesOf(Bk b) {
            int n = 0;
            for (Cp c : copies) {
                n += c.book == b ? 1 : 0;
            }
            return n;
        }

        public int add(int book) {
            Bk b = bk(book);
            argument(isText(tape));
            String[] words = tape.split("[ /|]");
            state(b.words.size() + words.length <= 80 && copiesOf(b) == 0);
            int at = 0;
            for (String w : words) {
                b.before.add(at == 0 ? '/' : tape.charAt(at - 1));
                b.words.add(w);
                at += w.length() + 1;
            }
            tape = "";
            return b.words.size();
        }

        int contractionsOf(Bk b, String word) {
            int set = 0;
            if (!core(word).matches("[0-9]+") && !isMarkedWord(b.code, b.grade, word)) {
                for (Unit u : unitsOf(b.code, b.grade, core(word).toLowerCase())) {
                    set |= u.contraction >= 0 ? 1 << u.contraction : 0;
                }
            }
            return set;
        }

        public int word(int book, int word, int what) {
            Bk b = bk(book);
            bounds(word >= 0 && word < b.words.size());
            argument(what >= 0 && what <= 7);
            String w = b.words.get(word);
            int[] where = lay(b).words.get(word);
            return new int[] {joined(written(b.code, b.grade, w)).size(), isMarkedWord(b.code, b.grade, w) ? 1 : 0,
                where[0] / (b.height - 1), where[0] % (b.height - 1) + 1, where[1], where[2], where[3], contractionsOf(b, w)}[what];
        }

        public int ofBook(int book, int what) {
            Bk b = bk(book);
            argument(what >= 0 && what <= 5);
            int dots = 0;
            for (int[] row : cellsOf(b)) {
                for (int c : row) {
                    dots += Integer.bitCount(c);
                }
            }
            return new int[] {b.words.size(), pagesOf(b), pagesOf(b) + lay(b).lines.size(), lay(b).print, dots, copiesOf(b)}[what];
        }

        void place(Bk b, int page, int line, int place) {
            bounds(page >= 0 && page < pagesOf(b) && line >= 0 && line < b.height && place >= 0 && place < b.width);
        }

        public int at(int book, int page, int line, int place) {
            Bk b = bk(book);
            place(b, page, line, place);
            return cellsOf(b)[page * b.height + line][place];
        }

        // -- copies

        public int renew(int embosser, int pin, int dots) {
            bounds(embosser >= 0 && embosser <= 2 && pin >= 0 && pin <= 5);
            argument(dots >= 1 && dots <= 100000);
            int old = left[embosser][pin];
            left[embosser][pin] = dots;
            return old;
        }

        public int emboss(int embosser, int book) {
            bounds(embosser >= 0 && embosser <= 2);
            Bk b = bk(book);
            state(!b.words.isEmpty() && copies.size() < 20);
            Cp c = new Cp();
            c.book = b;
            c.lines = cellsOf(b);
            for (int[] row : c.lines) {
                for (int i = 0; i < row.length; i++) {
                    for (int pin = 0; pin < 6; pin++) {
                        int dot = 1 << pin;
                        if ((row[i] & dot) != 0 && --left[embosser][pin] < 0) {
                            left[embosser][pin] = 0;
                            row[i] -= dot;
                            c.missing++;
                        }
                    }
                }
            }
            copies.add(c);
            return copies.size() - 1;
        }

        Cp cp(int copy) {
            bounds(copy >= 0 && copy < copies.size());
            return copies.get(copy);
        }

        public int felt(int copy, int page, int line, int place) {
            Cp c = cp(copy);
            place(c.book, page, line, place);
            return c.hurt.contains(page) ? 0 : c.lines[page * c.book.height + line][place];
        }

        int misread(Cp c) {
            Bk b = c.book;
            Laid laid = lay(b);
            int perPage = b.height - 1;
            List<int[]> flat = new ArrayList<>();
            for (int i = 0; i < laid.lines.size(); i++) {
                int page = i / perPage;
                flat.add(c.hurt.contains(page) ? new int[b.width] : c.lines[page * b.height + 1 + i % perPage]);
            }
            int n = 0;
            for (int w = 0; w < b.words.size(); w++) {
                int[] where = laid.words.get(w);
                int all = joined(written(b.code, b.grade, b.words.get(w))).size();
                List<Integer> cells = new ArrayList<>();
                for (int i = 0; i < where[4]; i++) {
                    cells.add(flat.get(where[0])[where[1] + i]);
                }
                for (int i = 0; i < all - where[4]; i++) {
                    cells.add(flat.get(where[0] + 1)[i]);
                }
                n += b.words.get(w).equals(readWord(b.code, b.grade, cells)) ? 0 : 1;
            }
            return n;
        }

        public int ofCopy(int copy, int what) {
            Cp c = cp(copy);
            argument(what >= 0 && what <= 6);
            return new int[] {books.indexOf(c.book), c.missing, misread(c), c.hurt.size(), c.reader, c.due, c.sent}[what];
        }

        public int sheets() {
            int n = 0;
            for (Cp c : copies) {
                n += c.book.both ? (pagesOf(c.book) + 1) / 2 : pagesOf(c.book);
            }
            return n;
        }

        // -- post

        public int reader(int rank) {
            argument(rank >= 0 && rank <= 2);
            state(readers.size() < 6);
            readers.add(rank);
            knows.add(new java.util.HashSet<>());
            lateSoFar.add(0);
            return readers.size() - 1;
        }

        void rd(int reader) {
            bounds(reader >= 0 && reader < readers.size());
        }

        public int teach(int reader, int code, int contraction) {
            rd(reader);
            bounds(code >= 0 && code < codes.size());
            bounds(contraction >= 0 && contraction < codes.get(code).size());
            knows.get(reader).add(code + "." + contraction);
            int n = 0;
            for (String s : knows.get(reader)) {
                n += s.startsWith(code + ".") ? 1 : 0;
            }
            return n;
        }

        public int unknown(int reader, int book) {
            rd(reader);
            Bk b = bk(book);
            int n = 0;
            for (String w : b.words) {
                boolean can = true;
                for (int i = 0; i < 24; i++) {
                    can &= (contractionsOf(b, w) >> i & 1) == 0 || knows.get(reader).contains(b.code + "." + i);
                }
                n += can ? 0 : 1;
            }
            return n;
        }

        int wishPlace(int reader, int book) {
            for (int i = 0; i < waiting.size(); i++) {
                if (waiting.get(i)[0] == reader && waiting.get(i)[1] == book) {
                    return i;
                }
            }
            return -1;
        }

        public int wish(int reader, int book) {
            state(unknown(reader, book) == 0);
            state(wishPlace(reader, book) < 0 && waiting.size() < 30);
            for (Cp c : copies) {
                state(c.reader != reader || c.book != books.get(book));
            }
            waiting.add(new int[] {reader, book});
            int n = 0;
            for (int[] w : waiting) {
                n += w[1] == book ? 1 : 0;
            }
            return n;
        }

        public int secret(int book, int day, int readers) {
            Bk b = bk(book);
            argument(day >= 0 && day <= 1000 && readers >= 0 && readers <= 63);
            int old = b.secretDay;
            b.secretDay = day;
            b.secretReaders = readers;
            return old;
        }

        int lent(int reader) {
            int n = 0;
            for (Cp c : copies) {
                n += c.reader == reader ? 1 : 0;
            }
            return n;
        }

        public int pass(int days) {
            argument(days >= 1 && days <= 100);
            state(day + days <= 1000);
            int sent = 0;
            for (int d = 0; d < days; d++) {
                day++;
                for (Cp c : copies) {
                    if (c.reader >= 0 || c.hurt.size() >= 2) {
                        continue;
                    }
                    for (int rank = 2; rank >= 0 && c.reader < 0; rank--) {
                        for (int[] w : new ArrayList<>(waiting)) {
                            boolean may = day >= c.book.secretDay || (c.book.secretReaders & 1 << w[0]) != 0;
                            if (c.reader < 0 && books.get(w[1]) == c.book && readers.get(w[0]) == rank && may && lent(w[0]) < 2) {
                                c.reader = w[0];
                                c.due = day + 20;
                                c.sent++;
                                sent++;
                                waiting.remove(w);
                            }
                        }
                    }
                }
            }
            return sent;
        }

        public int day() {
            return day;
        }

        public int giveBack(int copy, int hurt) {
            Cp c = cp(copy);
            bounds(hurt >= -1 && hurt < pagesOf(c.book));
            state(c.reader >= 0);
            int late = Math.max(0, day - c.due);
            lateSoFar.set(c.reader, lateSoFar.get(c.reader) + late);
            c.reader = -1;
            c.due = -1;
            if (hurt >= 0) {
                c.hurt.add(hurt);
            }
            return late;
        }

        public int ahead(int reader, int book) {
            rd(reader);
            bk(book);
            int own = wishPlace(reader, book);
            if (own < 0) {
                return -1;
            }
            int n = 0;
            for (int i = 0; i < waiting.size(); i++) {
                int[] w = waiting.get(i);
                int more = readers.get(w[0]) - readers.get(reader);
                n += w[1] == book && (more > 0 || more == 0 && i < own) ? 1 : 0;
            }
            return n;
        }

        public int late(int reader) {
            rd(reader);
            int n = lateSoFar.get(reader);
            for (Cp c : copies) {
                n += c.reader == reader ? Math.max(0, day - c.due) : 0;
            }
            return n;
        }
    }
}
