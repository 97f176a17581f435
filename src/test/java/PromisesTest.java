/** The promises 1 to 37 of the document, one method each: ordinary calls, the edges that it names, wrong calls. */
public final class PromisesTest {
    private static final String BOUNDS = "IndexOutOfBoundsException";
    private static final String ARGUMENT = "IllegalArgumentException";
    private static final String STATE = "IllegalStateException";

    private static int wrong = 0;
    private static int asked = 0;
    private static int promise = 0;

    private interface Call {
        long ask();
    }

    public static void main(String[] args) {
        tapeAndCodes();
        words();
        formulas();
        books();
        copies();
        post();
        System.out.println(asked + " answers asked, " + wrong + " wrong");
        if (wrong != 0) {
            System.exit(1);
        }
    }

    // ---- helpers

    private static void due(String what, Object got, Object due) {
        asked++;
        if (!got.equals(due)) {
            wrong++;
            System.out.println("promise " + promise + ": " + what + " answered " + got + ", due is " + due);
        }
    }

    private static void is(String what, long due, Call call) {
        due(what, answer(call), "" + due);
    }

    private static void fails(String what, String exception, Call call) {
        due(what, answer(call), exception);
    }

    private static String answer(Call call) {
        try {
            return "" + call.ask();
        } catch (RuntimeException e) {
            return e.getClass().getSimpleName();
        }
    }

    private static void put(Touchpress x, String text) {
        for (int from = 0; from < text.length(); from += 8) {
            int n = Math.min(8, text.length() - from);
            long packed = 0;
            for (int i = 0; i < n; i++) {
                packed |= (long) text.charAt(from + i) << 8 * i;
            }
            x.type(packed, n);
        }
    }

    private static void anew(Touchpress x, String text) {
        x.wipe();
        put(x, text);
    }

    private static int contract(Touchpress x, int code, String letters, int grade, int place, int first, int second) {
        anew(x, letters);
        return x.contraction(code, grade, place, first, second);
    }

    private static void divide(Touchpress x, String parts) {
        anew(x, parts);
        x.division();
    }

    private static int addTo(Touchpress x, int book, String text) {
        anew(x, text);
        return x.add(book);
    }

    /** The cells of a word, with blanks between. */
    private static String written(Touchpress x, int code, int grade, String word) {
        anew(x, word);
        StringBuilder s = new StringBuilder();
        int size = x.size(code, grade);
        for (int i = 0; i < size; i++) {
            s.append(i == 0 ? "" : " ").append(x.cell(code, grade, i));
        }
        return s.toString();
    }

    private static String formula(Touchpress x, int which, String formula) {
        anew(x, formula);
        StringBuilder s = new StringBuilder();
        int size = x.formulaCells(which);
        for (int i = 0; i < size; i++) {
            s.append(i == 0 ? "" : " ").append(x.formulaCell(which, i));
        }
        return s.toString();
    }

    /** A line of a page; a run of like cells as the cell, a star and how often. */
    private static String line(Touchpress x, int book, int page, int line, int width) {
        StringBuilder s = new StringBuilder();
        for (int i = 0; i < width;) {
            int cell = x.at(book, page, line, i);
            int end = i;
            while (end < width && x.at(book, page, line, end) == cell) {
                end++;
            }
            s.append(s.length() == 0 ? "" : " ").append(cell).append(end - i > 1 ? "*" + (end - i) : "");
            i = end;
        }
        return s.toString();
    }

    private static String told(Touchpress x, int book, int word) {
        StringBuilder s = new StringBuilder();
        for (int what = 0; what < 8; what++) {
            s.append(what == 0 ? "" : " ").append(x.word(book, word, what));
        }
        return s.toString();
    }

    private static String toldOf(Touchpress x, int book) {
        StringBuilder s = new StringBuilder();
        for (int what = 0; what < 6; what++) {
            s.append(what == 0 ? "" : " ").append(x.ofBook(book, what));
        }
        return s.toString();
    }

    private static String toldOfCopy(Touchpress x, int copy) {
        StringBuilder s = new StringBuilder();
        for (int what = 0; what < 7; what++) {
            s.append(what == 0 ? "" : " ").append(x.ofCopy(copy, what));
        }
        return s.toString();
    }

    private static Touchpress withCode() {
        Touchpress x = new Touchpress();
        x.code();
        return x;
    }

    // ---- promises 1 to 7

    private static void tapeAndCodes() {
        newHouse();
        type();
        wipe();
        fault();
        code();
        contraction();
        contractionLimits();
        division();
    }

    private static void newHouse() {
        promise = 1;
        Touchpress x = new Touchpress();
        is("day", 0, x::day);
        is("fault of the empty tape", 0, x::fault);
        is("wipe of the empty tape", 0, x::wipe);
        is("sheets", 0, x::sheets);
        fails("no code", BOUNDS, () -> x.book(0, 0, 18, 3, true));
        fails("no book", BOUNDS, () -> x.ofBook(0, 0));
        fails("no reader", BOUNDS, () -> x.late(0));
        fails("no copy", BOUNDS, () -> x.ofCopy(0, 0));
        is("the first code", 0, x::code);
    }

    private static void type() {
        promise = 2;
        Touchpress x = new Touchpress();
        is("three", 3, () -> x.type('a' | 'B' << 8 | '9' << 16, 3));
        is("what is above n is not typed", 4, () -> x.type('z' | 0x2100L | 0xff00000000000000L, 1));
        fails("n = 0", ARGUMENT, () -> x.type('a', 0));
        fails("n = 9", ARGUMENT, () -> x.type(0x6161616161616161L, 9));
        fails("n = -1", ARGUMENT, () -> x.type('a', -1));
        for (char c = 0; c < 256; c++) {
            char typed = c;
            boolean isOfTape = c < 128 && (Character.isLetterOrDigit(c) || " ,.;?*/|+-^()".indexOf(c) >= 0);
            Touchpress y = new Touchpress();
            due("type of " + (int) c, answer(() -> y.type(typed, 1)), isOfTape ? "1" : ARGUMENT);
        }
        fails("the last of eight", ARGUMENT, () -> x.type(0x2161616161616161L, 8));
        is("nothing was typed by those", 4, x::wipe);
        put(x, "a".repeat(56));
        fails("61 characters", STATE, () -> x.type(0x6161616161L, 5));
        fails("the argument first", ARGUMENT, () -> x.type(0x2161616161L, 5));
        is("60 characters", 60, () -> x.type(0x61616161L, 4));
        fails("a full tape", STATE, () -> x.type('a', 1));
        is("all 60 are there", 60, x::wipe);
        is("eight at once", 8, () -> x.type(0x6161616161616161L, 8));
    }

    private static void wipe() {
        promise = 3;
        Touchpress x = new Touchpress();
        put(x, "ab(");
        is("three", 3, x::wipe);
        is("none then", 0, x::wipe);
        is("fault", 0, x::fault);
    }

    private static void fault() {
        promise = 4;
        String[] texts = {"a", "Z", "Ab", "AB", "*a", "*12,", "a.", "a b", "a/b|c", "abcdefghij", "ABCDEFGHIJ", "Abcdefghij",
            "123456", "1 a", "a, b; c? d.", "*A?", "0"};
        for (String s : texts) {
            fault(s, -1);
        }
        fault("", 0);
        fault("*", 1);
        fault("a ", 2);
        fault("a|", 2);
        fault("a,/", 3);
        fault("a *", 3);
        fault(" ", 0);
        fault("/a", 0);
        fault(",", 0);
        fault("**a", 1);
        fault("a*", 1);
        fault("a  b", 2);
        fault("a /b", 2);
        fault("aB", 1);
        fault("AbC", 2);
        fault("ABc", 2);
        fault("A1", 1);
        fault("1a", 1);
        fault("a1", 1);
        fault("a,,", 2);
        fault("a,b", 2);
        fault("abcdefghijk", 10);
        fault("ABCDEFGHIJK", 10);
        fault("Abcdefghijk", 10);
        fault("*abcdefghijk", 11);
        fault("1234567", 6);
        fault("*1234567", 7);
        fault("a+b", 1);
        fault("a b (c", 4);
        fault("ab 123456 ABCDEFGHIJ *z. A b|c/d, *12;", -1);
        fault("abcde ".repeat(10), 60);
    }

    private static void fault(String s, int due) {
        Touchpress x = new Touchpress();
        put(x, s);
        is("fault of '" + s + "'", due, x::fault);
    }

    private static void code() {
        promise = 5;
        Touchpress x = new Touchpress();
        is("first", 0, x::code);
        is("second", 1, x::code);
        is("third", 2, x::code);
        fails("fourth", STATE, x::code);
        anew(x, "ab");
        is("has no contractions", 0, () -> x.contraction(2, 1, 0, 1, 0));
    }

    private static void contraction() {
        promise = 6;
        Touchpress x = withCode();
        put(x, "th");
        is("the first", 0, () -> x.contraction(0, 1, Touchpress.ANY, 57, 0));
        is("the tape is empty then", 0, x::wipe);
        put(x, "abcdef");
        is("of six letters", 1, () -> x.contraction(0, 3, Touchpress.END, 63, 62));
        put(x, "th");
        is("the same letters again", 2, () -> x.contraction(0, 2, Touchpress.WHOLE, 1, 1));
        put(x, "th");
        fails("code 1", BOUNDS, () -> x.contraction(1, 0, 9, 0, 0));
        fails("code -1", BOUNDS, () -> x.contraction(-1, 1, 0, 1, 0));
        fails("grade 0", ARGUMENT, () -> x.contraction(0, 0, 0, 1, 0));
        fails("grade 4", ARGUMENT, () -> x.contraction(0, 4, 0, 1, 0));
        fails("place -1", ARGUMENT, () -> x.contraction(0, 1, -1, 1, 0));
        fails("place 5", ARGUMENT, () -> x.contraction(0, 1, 5, 1, 0));
        fails("first blank", ARGUMENT, () -> x.contraction(0, 1, 0, 0, 1));
        fails("first below", ARGUMENT, () -> x.contraction(0, 1, 0, -1, 0));
        fails("first above", ARGUMENT, () -> x.contraction(0, 1, 0, 64, 0));
        fails("second below", ARGUMENT, () -> x.contraction(0, 1, 0, 1, -1));
        fails("second above", ARGUMENT, () -> x.contraction(0, 1, 0, 1, 64));
        for (int cell : new int[] {40, 32, 48, 60, 36, 2, 6, 38, 50}) {
            fails("first " + cell, ARGUMENT, () -> x.contraction(0, 1, 0, cell, 0));
            fails("second " + cell, ARGUMENT, () -> x.contraction(0, 1, 0, 1, cell));
        }
        for (String s : new String[] {"a", "abcdefg", "Ab", "a b", "ab.", "a1", "", "*ab"}) {
            anew(x, s);
            fails("of '" + s + "'", ARGUMENT, () -> x.contraction(0, 1, 0, 1, 0));
        }
        anew(x, "er");
        is("none of those was made", 3, () -> x.contraction(0, 1, 0, 1, 0));
        int others = 0;
        for (int cell = 1; cell < 64; cell++) {
            Touchpress y = withCode();
            int made = cell;
            put(y, "ab");
            others += answer(() -> y.contraction(0, 1, 0, made, made)).equals("0") ? 1 : 0;
        }
        due("cells for contractions", others, 63 - 9);
    }

    private static void contractionLimits() {
        Touchpress x = withCode();
        x.code();
        for (int i = 0; i < 24; i++) {
            int number = i;
            anew(x, "ab");
            is("number " + i, number, () -> x.contraction(0, 1, 0, 1, 0));
        }
        put(x, "ab");
        fails("the 25th", STATE, () -> x.contraction(0, 1, 0, 1, 0));
        fails("the argument first", ARGUMENT, () -> x.contraction(0, 1, 0, 2, 0));
        is("of another code", 0, () -> x.contraction(1, 1, 0, 1, 0));
        x.book(1, 2, 18, 3, true);
        put(x, "ab");
        is("a book without words", 1, () -> x.contraction(1, 1, 0, 1, 0));
        addTo(x, 0, "z");
        put(x, "ab");
        fails("a book with words", STATE, () -> x.contraction(1, 1, 0, 1, 0));
        is("the tape stays", 2, x::wipe);
        x.code();
        put(x, "ab");
        is("a book of another code", 0, () -> x.contraction(2, 1, 0, 1, 0));
    }

    private static void division() {
        promise = 7;
        Touchpress x = withCode();
        put(x, "mis the ar");
        is("eight letters", 8, x::division);
        is("the tape is empty then", 0, x::wipe);
        for (String s : new String[] {"", "abc", "a b c d e", "a/b", "a|b", "A b", "a b,", "*a b", "a 1", "a b ", "abcdef ghijk", "a  b"}) {
            anew(x, s);
            fails("of '" + s + "'", ARGUMENT, x::division);
            is("the tape stays", s.length(), x::wipe);
        }
        put(x, "misth ear");
        fails("divided already", STATE, x::division);
        is("the tape stays", 9, x::wipe);
        put(x, "abcde fghij");
        is("ten letters", 10, x::division);
        put(x, "a b c d");
        is("four parts", 4, x::division);
        for (int i = 0; i < 9; i++) {
            int number = i;
            anew(x, "ab " + (char) ('a' + number));
            is("more of them", 3, x::division);
        }
        put(x, "x y");
        fails("the 13th", STATE, x::division);
        Touchpress y = withCode();
        y.book(0, 0, 18, 3, true);
        put(y, "x y");
        is("a book without words", 2, y::division);
        addTo(y, 0, "a");
        put(y, "x z");
        fails("a book with words", STATE, y::division);
        anew(y, "x z,");
        fails("the argument first", ARGUMENT, y::division);
    }

    // ---- promises 8 to 13

    private static void words() {
        signs();
        places();
        longest();
        readBack();
        parts();
        wrongWords();
        searches();
    }

    private static void signs() {
        promise = 9;
        Touchpress x = withCode();
        due("alphabet", written(x, 0, 0, "abcdefghij") + " " + written(x, 0, 0, "klmnopqrst") + " " + written(x, 0, 0, "uvwxyz"),
            "1 3 9 25 17 11 27 19 10 26 5 7 13 29 21 15 31 23 14 30 37 39 58 45 61 53");
        due("digits", written(x, 0, 3, "123456") + " " + written(x, 0, 3, "7890"), "60 1 3 9 25 17 11 60 27 19 10 26");
        due("marks", written(x, 0, 0, "a,") + written(x, 0, 0, " a;".trim()) + written(x, 0, 0, "a?") + written(x, 0, 0, "a."),
            "1 21 61 381 50");
        due("star", written(x, 0, 0, "*a"), "40 1");
        due("one great letter", written(x, 0, 0, "A"), "32 1");
        due("the first great", written(x, 0, 0, "Ab"), "32 1 3");
        due("all great", written(x, 0, 0, "AB"), "32 32 1 3");
        due("all of it", written(x, 0, 0, "*ABC;"), "40 32 32 1 3 9 6");
        due("digits with star and mark", written(x, 0, 0, "*10?"), "40 60 1 26 38");
        anew(x, "*ABC;");
        promise = 8;
        is("size", 7, () -> x.size(0, 0));
        promise = 9;
        is("the last cell", 6, () -> x.cell(0, 0, 6));
        is("behind the last", -1, () -> x.cell(0, 0, 7));
        is("far behind", -1, () -> x.cell(0, 0, Integer.MAX_VALUE));
    }

    private static void places() {
        promise = 9;
        int[] cells = {63, 47, 55, 59, 62};
        String[] words = {"ab", "abc", "cabc", "cab", "cabcabcab"};
        String[] due = {"63", "63 9", "9 63 9", "9 63", "9 63 9 63 9 63", "47", "1 3 9", "9 1 3 9", "9 1 3", "9 1 3 9 1 3 9 1 3",
            "1 3", "55 9", "9 1 3 9", "9 1 3", "9 1 3 9 1 3 9 1 3", "1 3", "1 3 9", "9 59 9", "9 1 3", "9 59 9 59 9 1 3",
            "1 3", "1 3 9", "9 1 3 9", "9 62", "9 1 3 9 1 3 9 62"};
        for (int place = Touchpress.ANY; place <= Touchpress.END; place++) {
            Touchpress x = withCode();
            contract(x, 0, "ab", 2, place, cells[place], 0);
            for (int i = 0; i < words.length; i++) {
                due(words[i] + " in the place " + place, written(x, 0, 2, words[i]), due[5 * place + i]);
                due(words[i] + " in a lower grade", written(x, 0, 1, words[i]).contains("" + cells[place]), false);
            }
            due("great letters in the place " + place, written(x, 0, 3, "*AB,"), "40 32 32 " + due[5 * place] + " 2");
        }
    }

    private static void longest() {
        promise = 9;
        Touchpress x = withCode();
        contract(x, 0, "th", 1, 0, 57, 0);
        contract(x, 0, "the", 2, 0, 46, 0);
        contract(x, 0, "the", 1, 0, 63, 0);
        contract(x, 0, "ther", 3, 0, 8, 16);
        contract(x, 0, "he", 1, 0, 4, 0);
        due("grade 0", written(x, 0, 0, "there"), "30 19 17 23 17");
        due("grade 1", written(x, 0, 1, "there"), "63 23 17");
        due("grade 2: of several the first", written(x, 0, 2, "there"), "46 23 17");
        due("grade 3: the most letters", written(x, 0, 3, "there"), "8 16 17");
        due("from the left to the right", written(x, 0, 1, "thhe"), "57 4");
        due("another code", x.code(), 1);
        due("without contractions", written(x, 1, 3, "there"), "30 19 17 23 17");
    }

    private static void readBack() {
        promise = 10;
        Touchpress x = withCode();
        contract(x, 0, "but", 2, Touchpress.WHOLE, 3, 0);
        due("b is read as but", written(x, 0, 2, "b"), "48 3");
        is("b", 1, () -> x.isMarked(0, 2) ? 1 : 0);
        is("b in the grade 1", 0, () -> x.isMarked(0, 1) ? 1 : 0);
        due("with all signs", written(x, 0, 2, "*B?"), "40 32 48 3 38");
        due("not all of the row", written(x, 0, 2, "bb"), "3 3");
        due("but", written(x, 0, 2, "but"), "3");
        is("but", 0, () -> x.isMarked(0, 2) ? 1 : 0);
        due("BUT", written(x, 0, 2, "BUT"), "32 32 3");
        anew(x, "12");
        is("digits", 0, () -> x.isMarked(0, 2) ? 1 : 0);
        contract(x, 0, "ea", 2, Touchpress.ANY, 1, 3);
        due("ab is read as ea", written(x, 0, 2, "cabs"), "48 9 1 3 14");
        due("ea", written(x, 0, 2, "ea"), "1 3");
        contract(x, 0, "ch", 3, Touchpress.ANY, 3, 8);
        due("read as ea, and then not at all", written(x, 0, 3, "ach"), "48 1 9 19");
        is("ach", 1, () -> x.isMarked(0, 3) ? 1 : 0);
        anew(x, "ch");
        is("ch", 0, () -> x.isMarked(0, 3) ? 1 : 0);
        Touchpress y = withCode();
        contract(y, 0, "ab", 1, Touchpress.ANY, 5, 0);
        contract(y, 0, "cd", 1, Touchpress.ANY, 5, 0);
        due("of several the first is read", written(y, 0, 1, "cd"), "48 9 25");
        due("that", written(y, 0, 1, "ab"), "5");
        due("k is read as ab", written(y, 0, 1, "k"), "48 5");
    }

    private static void parts() {
        promise = 8;
        Touchpress x = withCode();
        contract(x, 0, "th", 2, 0, 57, 0);
        contract(x, 0, "the", 2, 0, 46, 0);
        contract(x, 0, "ar", 2, 0, 28, 0);
        contract(x, 0, "sthe", 2, 0, 63, 0);
        anew(x, "misthear");
        is("not divided", 4, () -> x.size(0, 2));
        divide(x, "mis the ar");
        due("divided", written(x, 0, 2, "misthear"), "13 10 14 46 28");
        due("divided, great", written(x, 0, 2, "Misthear"), "32 13 10 14 46 28");
        due("divided, all great", written(x, 0, 2, "MISTHEAR"), "32 32 13 10 14 46 28");
        due("other letters", written(x, 0, 2, "misthea"), "13 10 63 1");
        divide(x, "t he");
        due("never over the end", written(x, 0, 2, "the"), "30 19 17");
        Touchpress y = withCode();
        contract(y, 0, "ab", 1, Touchpress.BEGINNING, 63, 0);
        contract(y, 0, "cd", 1, Touchpress.END, 47, 0);
        contract(y, 0, "cd", 1, Touchpress.WHOLE, 62, 0);
        contract(y, 0, "ef", 1, Touchpress.MIDDLE, 55, 0);
        divide(y, "ab cd");
        due("places in all the letters", written(y, 0, 1, "abcd"), "63 47");
        divide(y, "a ef b");
        due("the middle", written(y, 0, 1, "aefb"), "1 55 3");
        contract(y, 0, "abcd", 3, Touchpress.WHOLE, 4, 0);
        due("WHOLE is over the ends", written(y, 0, 3, "abcd"), "63 47");
    }

    private static void wrongWords() {
        Touchpress x = withCode();
        String[] none = {"", "a b", "a/b", "*", "a ", "a+b", "aB", "abcdefghijk"};
        for (String s : none) {
            anew(x, s);
            promise = 8;
            fails("size of '" + s + "'", STATE, () -> x.size(0, 0));
            promise = 9;
            fails("cell of '" + s + "'", STATE, () -> x.cell(0, 0, 0));
            promise = 10;
            fails("isMarked of '" + s + "'", STATE, () -> x.isMarked(0, 0) ? 1 : 0);
            promise = 11;
            fails("least of '" + s + "'", STATE, () -> x.least(0, 0));
            promise = 12;
            fails("ways of '" + s + "'", STATE, () -> x.ways(0, 0));
            promise = 13;
            fails("readings of '" + s + "'", STATE, () -> x.readings(0, 0));
        }
        int[][] wrong = {{-1, 0}, {1, 0}, {1, 4}, {0, -1}, {0, 4}};
        for (int[] w : wrong) {
            String due = w[0] != 0 ? BOUNDS : ARGUMENT;
            promise = 8;
            fails("size", due, () -> x.size(w[0], w[1]));
            promise = 9;
            fails("cell", due, () -> x.cell(w[0], w[1], 0));
            promise = 10;
            fails("isMarked", due, () -> x.isMarked(w[0], w[1]) ? 1 : 0);
            promise = 11;
            fails("least", due, () -> x.least(w[0], w[1]));
            promise = 12;
            fails("ways", due, () -> x.ways(w[0], w[1]));
            promise = 13;
            fails("readings", due, () -> x.readings(w[0], w[1]));
        }
        promise = 9;
        fails("cell -1", BOUNDS, () -> x.cell(0, 4, -1));
        anew(x, "*12.");
        promise = 11;
        fails("least of digits", STATE, () -> x.least(0, 0));
        promise = 12;
        fails("ways of digits", STATE, () -> x.ways(0, 0));
        promise = 13;
        fails("readings of digits", STATE, () -> x.readings(0, 0));
        promise = 8;
        is("asking changes nothing", 4, x::wipe);
    }

    private static void searches() {
        Touchpress x = withCode();
        contract(x, 0, "ab", 1, 0, 63, 0);
        contract(x, 0, "abc", 1, 0, 47, 4);
        contract(x, 0, "cde", 2, 0, 55, 0);
        contract(x, 0, "de", 3, Touchpress.END, 1, 3);
        contract(x, 0, "ab", 1, 0, 63, 0);
        anew(x, "*ABCDE,");
        promise = 11;
        is("grade 0", 5, () -> x.least(0, 0));
        is("grade 1", 4, () -> x.least(0, 1));
        is("grade 2: not the greedy one", 2, () -> x.least(0, 2));
        promise = 8;
        is("the greedy one", 4 + 4, () -> x.size(0, 2));
        promise = 12;
        is("grade 0", 1, () -> x.ways(0, 0));
        is("grade 1", 1 + 2 + 1, () -> x.ways(0, 1));
        is("grade 2", 4 + 3, () -> x.ways(0, 2));
        is("grade 3", 7 + 4, () -> x.ways(0, 3));
        promise = 13;
        is("abc d e has no a or b", 1, () -> x.readings(0, 2));
        anew(x, "xde");
        is("xde: itself, x a b", 2, () -> x.readings(0, 3));
        anew(x, "de");
        is("de is all of the row", 1, () -> x.readings(0, 3));
        anew(x, "ab");
        is("ab: two contractions of this cell", 2, () -> x.readings(0, 1));
        anew(x, "abab");
        is("four", 4, () -> x.readings(0, 1));
        Touchpress y = withCode();
        contract(y, 0, "but", 2, Touchpress.WHOLE, 3, 0);
        anew(y, "b");
        is("a marked word: but, b", 2, () -> y.readings(0, 2));
        divide(y, "a b");
        contract(y, 0, "ab", 1, 0, 63, 0);
        anew(y, "ab");
        promise = 11;
        is("not over the end of a part", 2, () -> y.least(0, 3));
        promise = 12;
        is("not over the end of a part", 1, () -> y.ways(0, 3));
        Touchpress z = withCode();
        for (int i = 0; i < 24; i++) {
            contract(z, 0, "aa", 1, 0, 63, 0);
        }
        anew(z, "aaaaaaaaaa");
        is("24 contractions", 13439449, () -> z.ways(0, 1));
        promise = 13;
        is("24 to the fifth", 7962624, () -> z.readings(0, 1));
    }

    // ---- promises 14 to 17

    private static void formulas() {
        promise = 14;
        String[] good = {"a", "1", "1234", "(a)", "((0))", "a+b-c.d/e^f", "a^b^c", "(a+b)^(c)", "a^(b)^c", "0007",
            "a+b+c+d+e+f+g+h+i+j+k+l", "((((((((((((((((((((((((((((1+a))))))))))))))))))))))))))))", "(((((((((((a^b))^c^d))))^e^f))^g)))"};
        for (String s : good) {
            formulaFault(s, -1);
        }
        formulaFault("", 0);
        formulaFault("(", 1);
        formulaFault("(a", 2);
        formulaFault("a+", 2);
        formulaFault("a^", 2);
        formulaFault("(".repeat(60), 60);
        formulaFault(")", 0);
        formulaFault("a)", 1);
        formulaFault("(a))", 3);
        formulaFault("()", 1);
        formulaFault("+a", 0);
        formulaFault("a++b", 2);
        formulaFault("a-(-b)", 3);
        formulaFault("ab", 1);
        formulaFault("a1", 1);
        formulaFault("1a", 1);
        formulaFault("12345", 4);
        formulaFault("(1)2", 3);
        formulaFault("a(b)", 1);
        formulaFault("(a)b", 3);
        formulaFault("A", 0);
        formulaFault("a b", 1);
        formulaFault("a*b", 1);
        formulaFault("a,", 1);
        formulaFault("a+b+c+d+e+f+g+h+i+j+k+l+m", 24);
        formulaFault("a+b+c+d+e+f+g+h+i+j+k+l+1234", 24);
        formulaFault("a+b+c+d+e+f+g+h+i+j+k+l+", 24);
        formulaFault("a+b+c+d+e+f+g+h+i+j+k+l^((", 26);
        formulaFault("a+b+c+d+e+f+g+h+i+j+k+l+(a", 25);
        formulaFault("(a+b+c+d+e+f+g+h+i+j+k+1234)", -1);
        formulaFault("(a+b+c+d+e+f+g+h+i+j+k+12345)", 27);
        lineCode();
        fieldCode();
        wrongFormulas();
    }

    private static void formulaFault(String s, int due) {
        Touchpress x = new Touchpress();
        put(x, s);
        is("fault of '" + s + "'", due, x::formulaFault);
        if (due == -1) {
            is("line code of '" + s + "' read back", 1, () -> x.isReadBack(0) ? 1 : 0);
            is("field code of '" + s + "' read back", 1, () -> x.isReadBack(1) ? 1 : 0);
        }
    }

    private static void lineCode() {
        promise = 16;
        Touchpress x = new Touchpress();
        due("signs", formula(x, 0, "a+b-c.d/e^f"), "1 22 3 36 9 20 25 12 17 34 11");
        due("digits", formula(x, 0, "1234"), "60 1 3 9 25");
        due("zeros", formula(x, 0, "0070"), "60 26 26 27 26");
        due("no brackets around atoms", formula(x, 0, "((a))+(12)"), "1 22 60 1 3");
        due("none around the left sum", formula(x, 0, "(a+b)-c"), "1 22 3 36 9");
        due("around the right sum", formula(x, 0, "a-(b+c)"), "1 36 35 3 22 9 28");
        due("around the right sum, even of +", formula(x, 0, "a+(b+c)"), "1 22 35 3 22 9 28");
        due("a sum in a product", formula(x, 0, "(a+b).(c-d)"), "35 1 22 3 28 20 35 9 36 25 28");
        due("none around products in a sum", formula(x, 0, "(a.b)+(c/d)"), "1 20 3 22 9 12 25");
        due("none around the left product", formula(x, 0, "(a/b).c"), "1 12 3 20 9");
        due("around the right product", formula(x, 0, "a.(b.c)"), "1 20 35 3 20 9 28");
        due("none around powers in a product", formula(x, 0, "(a^b).(c^d)"), "1 34 3 20 9 34 25");
        due("around parts of a power", formula(x, 0, "(a.b)^(c+d)"), "35 1 20 3 28 34 35 9 22 25 28");
        due("a product that is the right part of a power", formula(x, 0, "a^(b/c)"), "1 34 35 3 12 9 28");
        due("around the left power", formula(x, 0, "(a^b)^c"), "35 1 34 3 28 34 9");
        due("none around the right power", formula(x, 0, "a^(b^c)"), "1 34 3 34 9");
        due("the same", formula(x, 0, "a^b^c"), "1 34 3 34 9");
        promise = 15;
        anew(x, "a-(b+c)");
        is("seven", 7, () -> x.formulaCells(0));
        promise = 16;
        is("the last", 28, () -> x.formulaCell(0, 6));
        is("behind it", -1, () -> x.formulaCell(0, 7));
        is("far behind", -1, () -> x.formulaCell(0, Integer.MAX_VALUE));
    }

    private static void fieldCode() {
        promise = 16;
        Touchpress x = new Touchpress();
        due("a fraction", formula(x, 1, "a/b"), "55 1 12 3 62");
        due("a power", formula(x, 1, "a^b"), "1 24 3 16");
        due("the other signs", formula(x, 1, "a+b-c.d"), "1 22 3 36 9 20 25");
        due("no brackets in a fraction", formula(x, 1, "(a+b)/(c/d)"), "55 1 22 3 12 55 9 12 25 62 62");
        due("none around a fraction", formula(x, 1, "a.(b/c)"), "1 20 55 3 12 9 62");
        due("none around a fraction to a power", formula(x, 1, "(a/b)^c"), "55 1 12 3 62 24 9 16");
        due("none in what is raised to", formula(x, 1, "a^(b+c)"), "1 24 3 22 9 16");
        due("around a sum that is raised", formula(x, 1, "(a+b)^c"), "35 1 22 3 28 24 9 16");
        due("around a product that is raised", formula(x, 1, "(a.b)^c"), "35 1 20 3 28 24 9 16");
        due("around a power that is raised", formula(x, 1, "(a^b)^c"), "35 1 24 3 16 28 24 9 16");
        due("a power to the right", formula(x, 1, "a^b^c"), "1 24 3 24 9 16 16");
        due("a row", formula(x, 1, "a/b.c/d"), "55 55 1 12 3 62 20 9 12 25 62");
        due("the right product", formula(x, 1, "a.(b.c)"), "1 20 35 3 20 9 28");
        due("the right sum", formula(x, 1, "a-(b-12)"), "1 36 35 3 36 60 1 3 28");
        due("a sum in a product", formula(x, 1, "(a+b).c"), "35 1 22 3 28 20 9");
        promise = 15;
        anew(x, "a^(b+c)");
        is("six", 6, () -> x.formulaCells(1));
        is("eight in the line code", 7, () -> x.formulaCells(0));
        promise = 17;
        is("asking changes nothing", 7, x::wipe);
    }

    private static void wrongFormulas() {
        Touchpress x = new Touchpress();
        for (String s : new String[] {"", "a+", "(a", "A", "a b", "a+b+c+d+e+f+g+h+i+j+k+l+m"}) {
            anew(x, s);
            promise = 15;
            fails("cells of '" + s + "'", STATE, () -> x.formulaCells(0));
            fails("which first", ARGUMENT, () -> x.formulaCells(2));
            fails("which first", ARGUMENT, () -> x.formulaCells(-1));
            promise = 16;
            fails("cell of '" + s + "'", STATE, () -> x.formulaCell(1, 0));
            fails("place first", BOUNDS, () -> x.formulaCell(1, -1));
            fails("which first", ARGUMENT, () -> x.formulaCell(2, -1));
            fails("which first", ARGUMENT, () -> x.formulaCell(-1, 0));
            promise = 17;
            fails("read back '" + s + "'", STATE, () -> x.isReadBack(1) ? 1 : 0);
            fails("which first", ARGUMENT, () -> x.isReadBack(2) ? 1 : 0);
            fails("which first", ARGUMENT, () -> x.isReadBack(-1) ? 1 : 0);
        }
    }

    // ---- promises 18 to 22

    private static void books() {
        book();
        add();
        plainLines();
        printPages();
        dividedLines();
        wordsAndPages();
        longBook();
    }

    private static void book() {
        promise = 18;
        Touchpress x = withCode();
        is("the first", 0, () -> x.book(0, 0, 18, 3, true));
        is("the second", 1, () -> x.book(0, 3, 40, 25, false));
        fails("code 1", BOUNDS, () -> x.book(1, 9, 0, 0, true));
        fails("code -1", BOUNDS, () -> x.book(-1, 0, 18, 3, true));
        fails("grade -1", ARGUMENT, () -> x.book(0, -1, 18, 3, true));
        fails("grade 4", ARGUMENT, () -> x.book(0, 4, 18, 3, true));
        fails("width 17", ARGUMENT, () -> x.book(0, 0, 17, 3, true));
        fails("width 41", ARGUMENT, () -> x.book(0, 0, 41, 3, true));
        fails("height 2", ARGUMENT, () -> x.book(0, 0, 18, 2, true));
        fails("height 26", ARGUMENT, () -> x.book(0, 0, 18, 26, true));
        is("the third", 2, () -> x.book(0, 0, 18, 3, true));
        is("the fourth", 3, () -> x.book(0, 0, 18, 3, true));
        fails("the fifth", STATE, () -> x.book(0, 0, 18, 3, true));
        fails("the argument first", ARGUMENT, () -> x.book(0, 0, 18, 2, true));
        promise = 21;
        due("a book without words", toldOf(x, 0), "0 0 0 1 0 0");
        promise = 22;
        fails("has no page", BOUNDS, () -> x.at(0, 0, 0, 0));
    }

    private static void add() {
        promise = 19;
        Touchpress x = withCode();
        x.book(0, 0, 40, 25, true);
        put(x, "a b/c|d");
        is("four words", 4, () -> x.add(0));
        is("the tape is empty then", 0, x::wipe);
        fails("no text", ARGUMENT, () -> x.add(0));
        fails("no book", BOUNDS, () -> x.add(1));
        fails("no book", BOUNDS, () -> x.add(-1));
        put(x, "a b ");
        fails("no text", ARGUMENT, () -> x.add(0));
        is("the tape stays", 4, x::wipe);
        is("one more", 5, () -> addTo(x, 0, "a"));
        for (int i = 0; i < 3; i++) {
            addTo(x, 0, "a b c d e f g h i j k l m n o p q r s t u v w x y");
        }
        is("words", 80, () -> x.ofBook(0, 0));
        put(x, "a");
        fails("the 81st", STATE, () -> x.add(0));
        is("the tape stays", 1, x::wipe);
        fails("the argument first", ARGUMENT, () -> x.add(0));
        x.book(0, 0, 40, 25, true);
        addTo(x, 1, "a");
        is("words are of their book", 2, () -> addTo(x, 1, "b"));
        x.emboss(0, 1);
        put(x, "c");
        fails("there is a copy", STATE, () -> x.add(1));
        x.book(0, 0, 40, 25, true);
        is("none of this book", 1, () -> x.add(2));
    }

    private static void plainLines() {
        promise = 22;
        Touchpress x = withCode();
        x.book(0, 0, 18, 4, false);
        addTo(x, 0, "aaaaaaa bbbbbbbb c dd");
        due("head", line(x, 0, 0, 0, 18), "60 1 0*14 60 1");
        due("two blanks, room to the last cell", line(x, 0, 0, 1, 18), "0*2 1*7 0 3*8");
        due("next line", line(x, 0, 0, 2, 18), "9 0 25*2 0*14");
        due("a line that the page has not yet", line(x, 0, 0, 3, 18), "0*18");
        promise = 21;
        due("book", toldOf(x, 0), "4 1 3 1 " + (4 + 1 + 4 + 1 + 7 + 16 + 2 + 6) + " 0");
        addTo(x, 0, "e/f");
        promise = 22;
        due("added later: a line, behind two blanks", line(x, 0, 0, 3, 18), "0*2 17 0*15");
        due("head of the second page", line(x, 0, 1, 0, 18), "60 1 0*14 60 3");
        due("behind a stroke", line(x, 0, 1, 1, 18), "0*2 11 0*15");
        promise = 20;
        due("a", told(x, 0, 0), "7 0 0 1 2 1 1 0");
        due("b", told(x, 0, 1), "8 0 0 1 10 1 1 0");
        due("c", told(x, 0, 2), "1 0 0 2 0 1 1 0");
        due("dd", told(x, 0, 3), "2 0 0 2 2 1 1 0");
        due("e", told(x, 0, 4), "1 0 0 3 2 1 1 0");
        due("f", told(x, 0, 5), "1 0 1 1 2 1 1 0");
        promise = 21;
        due("book", toldOf(x, 0), "6 2 6 1 " + (4 + 1 + 4 + 1 + 7 + 16 + 2 + 6 + 2 + 4 + 1 + 4 + 2 + 3) + " 0");
        promise = 22;
        fails("page 2", BOUNDS, () -> x.at(0, 2, 0, 0));
        fails("page -1", BOUNDS, () -> x.at(0, -1, 0, 0));
        fails("line 4", BOUNDS, () -> x.at(0, 0, 4, 0));
        fails("line -1", BOUNDS, () -> x.at(0, 0, -1, 0));
        fails("place 18", BOUNDS, () -> x.at(0, 0, 0, 18));
        fails("place -1", BOUNDS, () -> x.at(0, 0, 0, -1));
        fails("book 1", BOUNDS, () -> x.at(1, 0, 0, 0));
        fails("book -1", BOUNDS, () -> x.at(-1, 0, 0, 0));
        is("a line that the last page has not", 0, () -> x.at(0, 1, 3, 17));
    }

    private static void printPages() {
        promise = 22;
        Touchpress x = withCode();
        x.book(0, 0, 18, 5, true);
        addTo(x, 0, "a|b c|d");
        due("the line of a bar", line(x, 0, 0, 2, 18), "36*16 60 3");
        due("no blanks behind a bar", line(x, 0, 0, 3, 18), "3 0 9 0*15");
        due("one left empty", line(x, 0, 0, 4, 18), "0*18");
        due("the print page of the first other line", line(x, 0, 1, 0, 18), "60 9 0*14 60 3");
        due("the bar there", line(x, 0, 1, 1, 18), "36*16 60 9");
        due("d", line(x, 0, 1, 2, 18), "25 0*17");
        promise = 20;
        due("a", told(x, 0, 0), "1 0 0 1 2 1 1 0");
        due("b", told(x, 0, 1), "1 0 0 3 0 1 2 0");
        due("c", told(x, 0, 2), "1 0 0 3 2 1 2 0");
        due("d", told(x, 0, 3), "1 0 1 2 0 1 3 0");
        promise = 21;
        is("pages", 2, () -> x.ofBook(0, 1));
        is("lines, the empty one too", 8, () -> x.ofBook(0, 2));
        is("print page", 3, () -> x.ofBook(0, 3));
        addTo(x, 0, "e");
        is("print page stays", 3, () -> x.word(0, 4, 6));
        promise = 22;
        Touchpress y = withCode();
        y.book(0, 0, 18, 3, true);
        addTo(y, 0, "a/b|c d|e|f/g|h|i|j|k");
        due("a page ends: its first line", line(y, 0, 1, 1, 18), "36*16 60 3");
        due("c d", line(y, 0, 1, 2, 18), "9 0 25 0*15");
        due("next page at once", line(y, 0, 2, 1, 18), "36*16 60 9");
        due("g begins a page", line(y, 0, 4, 1, 18), "0*2 27 0*15");
        due("one left empty", line(y, 0, 4, 2, 18), "0*18");
        due("head of the page behind", line(y, 0, 5, 0, 18), "60 17 0*14 60 11");
        due("the eighth print page", line(y, 0, 8, 1, 18), "36*16 60 19");
        addTo(y, 0, "l|m|n");
        due("the tenth", line(y, 0, 11, 1, 18), "36*15 60 1 26");
        due("its head", line(y, 0, 11, 0, 18), "60 1 26 0*12 60 1 3");
    }

    private static void dividedLines() {
        promise = 22;
        Touchpress x = withCode();
        contract(x, 0, "de", 2, 0, 63, 0);
        contract(x, 0, "but", 2, Touchpress.WHOLE, 3, 0);
        divide(x, "ab cde fg");
        divide(x, "xk z");
        x.book(0, 2, 18, 9, true);
        addTo(x, 0, "kkkkkkk abcdefg./kkkkkkkk abcdefg/kkkkkkkkkk *ABCDEFG;");
        due("all of it", line(x, 0, 0, 1, 18), "0*2 5*7 0 1 3 9 63 11 27 50 0");
        due("two parts and a hyphen: no room for the mark", line(x, 0, 0, 2, 18), "0*2 5*8 0 1 3 9 63 11 27 0");
        due("no room for a part: the next line", line(x, 0, 0, 3, 18), "0*2 5*10 0*6");
        due("there", line(x, 0, 0, 4, 18), "40 32*2 1 3 9 63 11 27 6 0*8");
        promise = 20;
        due("whole: three parts", told(x, 0, 1), "7 0 0 1 10 3 1 1");
        due("not begun there", told(x, 0, 5), "10 0 0 4 0 3 1 1");
        Touchpress y = withCode();
        contract(y, 0, "de", 2, 0, 63, 0);
        contract(y, 0, "but", 2, Touchpress.WHOLE, 3, 0);
        contract(y, 0, "cc", 3, 0, 9, 0);
        divide(y, "ab cde fg");
        divide(y, "cab c c");
        y.book(0, 2, 18, 9, true);
        addTo(y, 0, "kkkkkkkkk abcdefg. b");
        addTo(y, 0, "kkkkkkkkkk Abcdefg. m");
        addTo(y, 0, "kkkkkkkkkk k abcdefg");
        promise = 22;
        due("two parts", line(y, 0, 0, 1, 18), "0*2 5*9 0 1 3 9 63 36 0");
        due("the others, the mark, and a next word", line(y, 0, 0, 2, 18), "11 27 50 0 48 3 0*12");
        due("signs are of the first part", line(y, 0, 0, 3, 18), "0*2 5*10 0 32 1 3 36 0");
        due("two other parts", line(y, 0, 0, 4, 18), "9 63 11 27 50 0 13 0*11");
        due("a hyphen in the last cell", line(y, 0, 0, 5, 18), "0*2 5*10 0 5 0 1 3 36");
        due("the others", line(y, 0, 0, 6, 18), "9 63 11 27 0*14");
        promise = 20;
        due("two parts there", told(y, 0, 1), "7 0 0 1 12 2 1 1");
        due("marked", told(y, 0, 2), "2 1 0 2 4 1 1 0");
        due("one part there", told(y, 0, 4), "8 0 0 3 13 1 1 1");
        dividedMarked();
    }

    private static void dividedMarked() {
        Touchpress x = withCode();
        contract(x, 0, "qu", 1, 0, 1, 3);
        divide(x, "c ab c");
        x.book(0, 1, 18, 3, true);
        addTo(x, 0, "k/kkkkkkkkkk Cabc, k");
        promise = 22;
        due("the sign for letters is of the first part", line(x, 0, 0, 2, 18), "0*2 5*10 0 32 48 9 36 0");
        due("a word in two pages", line(x, 0, 1, 1, 18), "1 3 9 2 0 5 0*12");
        promise = 20;
        due("marked and divided", told(x, 0, 2), "7 1 0 2 13 1 1 0");
        Touchpress y = withCode();
        divide(y, "kl m");
        y.book(0, 0, 18, 3, true);
        addTo(y, 0, "kkkkkkkkkk k klm b");
        promise = 22;
        due("no room for hyphens behind a whole word", line(y, 0, 0, 1, 18), "0*2 5*10 0 5 0 5 7 13");
        due("a full line", line(y, 0, 0, 2, 18), "3 0*17");
        Touchpress z = withCode();
        divide(z, "klm n o");
        z.book(0, 0, 18, 3, true);
        addTo(z, 0, "kkkkkkkkkk k klmno b");
        due("not one part fits", line(z, 0, 0, 1, 18), "0*2 5*10 0 5 0*4");
        due("so all of it is below", line(z, 0, 0, 2, 18), "5 7 13 29 21 0 3 0*11");
        promise = 20;
        due("all parts", told(z, 0, 2), "5 0 0 2 0 3 1 0");
    }

    private static void wordsAndPages() {
        promise = 20;
        Touchpress x = withCode();
        contract(x, 0, "th", 1, 0, 57, 0);
        contract(x, 0, "er", 2, 0, 59, 0);
        contract(x, 0, "in", 3, 0, 20, 0);
        for (int i = 0; i < 20; i++) {
            contract(x, 0, "zz", 1, 0, 62, 0);
        }
        contract(x, 0, "yy", 1, 0, 47, 0);
        x.book(0, 2, 40, 3, true);
        addTo(x, 0, "thither yy 12 *Then, THTH;");
        due("a set of contractions", told(x, 0, 0), "4 0 0 1 2 1 1 3");
        is("the 24th", 1 << 23, () -> x.word(0, 1, 7));
        due("digits", told(x, 0, 2), "3 0 0 1 9 1 1 0");
        due("signs", told(x, 0, 3), "6 0 0 1 13 1 1 1");
        due("great ones", told(x, 0, 4), "5 0 0 1 20 1 1 1");
        fails("word 5", BOUNDS, () -> x.word(0, 5, 0));
        fails("word -1", BOUNDS, () -> x.word(0, -1, 0));
        fails("book 1", BOUNDS, () -> x.word(1, 0, 0));
        fails("book -1", BOUNDS, () -> x.word(-1, 0, 0));
        fails("the word first", BOUNDS, () -> x.word(0, 5, 8));
        fails("what 8", ARGUMENT, () -> x.word(0, 0, 8));
        fails("what -1", ARGUMENT, () -> x.word(0, 0, -1));
        promise = 21;
        fails("what 6", ARGUMENT, () -> x.ofBook(0, 6));
        fails("what -1", ARGUMENT, () -> x.ofBook(0, -1));
        fails("book 1", BOUNDS, () -> x.ofBook(1, 9));
        fails("book -1", BOUNDS, () -> x.ofBook(-1, 0));
        x.emboss(0, 0);
        x.emboss(2, 0);
        is("copies", 2, () -> x.ofBook(0, 5));
    }

    /** The most lines that a book can have: each word behind a bar, an empty line ahead of it. */
    private static void longBook() {
        promise = 21;
        Touchpress x = withCode();
        x.book(0, 0, 40, 4, false);
        addTo(x, 0, "a");
        for (int i = 0; i < 79; i += 26) {
            StringBuilder s = new StringBuilder("a");
            for (int k = 0; k < 25 && i + k + 1 < 79; k++) {
                s.append("|b");
            }
            addTo(x, 0, s.toString());
        }
        is("words", 80, () -> x.ofBook(0, 0));
        is("print page", x.word(0, 79, 6), () -> x.ofBook(0, 3));
        is("lines", x.word(0, 79, 2) * 4 + x.word(0, 79, 3) + 1, () -> x.ofBook(0, 2));
        promise = 22;
        int pages = x.ofBook(0, 1);
        int last = pages % 10;
        is("the last page's number", last == 0 ? 26 : new int[] {1, 3, 9, 25, 17, 11, 27, 19, 10}[last - 1], () -> x.at(0, pages - 1, 0, 39));
        promise = 24;
        is("all of it embossed", 0, () -> x.emboss(0, 0));
        promise = 27;
        is("sheets", pages, x::sheets);
    }

    // ---- promises 23 to 27

    private static void copies() {
        renew();
        emboss();
        misread();
        splitMisread();
        limitOfCopies();
    }

    private static void renew() {
        promise = 23;
        Touchpress x = new Touchpress();
        is("at first 1000", 1000, () -> x.renew(0, 0, 1));
        is("then what was told", 1, () -> x.renew(0, 0, 100000));
        is("the other end", 1000, () -> x.renew(2, 5, 7));
        is("each pin by itself", 1000, () -> x.renew(2, 0, 7));
        fails("embosser 3", BOUNDS, () -> x.renew(3, 0, 0));
        fails("embosser -1", BOUNDS, () -> x.renew(-1, 0, 1));
        fails("pin 6", BOUNDS, () -> x.renew(0, 6, 0));
        fails("pin -1", BOUNDS, () -> x.renew(0, -1, 1));
        fails("dots 0", ARGUMENT, () -> x.renew(0, 0, 0));
        fails("dots 100001", ARGUMENT, () -> x.renew(0, 0, 100001));
        is("those changed nothing", 100000, () -> x.renew(0, 0, 1));
    }

    private static void emboss() {
        promise = 24;
        Touchpress x = withCode();
        x.book(0, 0, 18, 3, true);
        fails("no words", STATE, () -> x.emboss(0, 0));
        fails("book 1", BOUNDS, () -> x.emboss(0, 1));
        fails("book -1", BOUNDS, () -> x.emboss(0, -1));
        fails("embosser 3", BOUNDS, () -> x.emboss(3, 0));
        fails("embosser -1", BOUNDS, () -> x.emboss(-1, 0));
        addTo(x, 0, "abc/d/e");
        // Dots 1: 2 of the head, 3 of abc, 1 of d; on the second page 1 and 1 of the head, 1 of e.
        x.renew(1, 0, 4);
        is("the first copy", 0, () -> x.emboss(1, 0));
        promise = 23;
        is("pin 0 raises no more", 0, () -> x.renew(1, 0, 3));
        is("pin 1: b, the 2 of the second head", 998, () -> x.renew(1, 1, 1000));
        is("pin 2: four signs for numbers", 996, () -> x.renew(1, 2, 1000));
        promise = 25;
        is("a sign for numbers of the head", 60, () -> x.felt(0, 0, 0, 0));
        is("the 1", 1, () -> x.felt(0, 0, 0, 1));
        is("the other 1", 1, () -> x.felt(0, 0, 0, 17));
        is("a", 1, () -> x.felt(0, 0, 1, 2));
        is("b, the last dot 1", 3, () -> x.felt(0, 0, 1, 3));
        is("c without it", 8, () -> x.felt(0, 0, 1, 4));
        is("d without it", 24, () -> x.felt(0, 0, 2, 2));
        is("head of the next page", 0, () -> x.felt(0, 1, 0, 1));
        is("its 2", 2, () -> x.felt(0, 1, 0, 17));
        is("e", 16, () -> x.felt(0, 1, 1, 2));
        is("a line that it has not", 0, () -> x.felt(0, 1, 2, 2));
        is("the book stays", 9, () -> x.at(0, 0, 1, 4));
        promise = 26;
        due("copy", toldOfCopy(x, 0), "0 5 3 0 -1 -1 0");
        promise = 24;
        is("the second copy", 1, () -> x.emboss(0, 0));
        promise = 26;
        due("whole", toldOfCopy(x, 1), "0 0 0 0 -1 -1 0");
        is("the first stays", 5, () -> x.ofCopy(0, 1));
        promise = 24;
        is("the third", 2, () -> x.emboss(1, 0));
        promise = 26;
        is("three dots more", 6, () -> x.ofCopy(2, 1));
        promise = 21;
        is("copies", 3, () -> x.ofBook(0, 5));
        promise = 25;
        fails("copy 3", BOUNDS, () -> x.felt(3, 0, 0, 0));
        fails("copy -1", BOUNDS, () -> x.felt(-1, 0, 0, 0));
        fails("page 2", BOUNDS, () -> x.felt(0, 2, 0, 0));
        fails("page -1", BOUNDS, () -> x.felt(0, -1, 0, 0));
        fails("line 3", BOUNDS, () -> x.felt(0, 0, 3, 0));
        fails("line -1", BOUNDS, () -> x.felt(0, 0, -1, 0));
        fails("place 18", BOUNDS, () -> x.felt(0, 0, 0, 18));
        fails("place -1", BOUNDS, () -> x.felt(0, 0, 0, -1));
        promise = 26;
        fails("copy 3", BOUNDS, () -> x.ofCopy(3, 9));
        fails("copy -1", BOUNDS, () -> x.ofCopy(-1, 0));
        fails("what 7", ARGUMENT, () -> x.ofCopy(0, 7));
        fails("what -1", ARGUMENT, () -> x.ofCopy(0, -1));
        promise = 27;
        is("one sheet each, both sides", 3, x::sheets);
        x.book(0, 0, 18, 3, true);
        x.book(0, 0, 18, 3, false);
        addTo(x, 1, "a/b/c/d/e");
        addTo(x, 2, "a/b/c/d/e");
        x.emboss(0, 1);
        is("three pages: two sheets", 5, x::sheets);
        x.emboss(0, 2);
        is("one side: three sheets", 8, x::sheets);
    }

    /** How many words of a text are misread if one pin raises so many dots and all others all. */
    private static void misread(String text, int pin, int dots, int due) {
        Touchpress x = withCode();
        contract(x, 0, "but", 2, Touchpress.WHOLE, 3, 0);
        contract(x, 0, "th", 2, Touchpress.ANY, 57, 0);
        contract(x, 0, "ing", 2, Touchpress.ANY, 44, 0);
        contract(x, 0, "ness", 2, Touchpress.END, 49, 14);
        x.book(0, 2, 40, 3, true);
        addTo(x, 0, text);
        x.renew(0, pin, dots);
        x.emboss(0, 0);
        is("misread of '" + text + "', pin " + pin + ", " + dots, due, () -> x.ofCopy(0, 2));
    }

    private static void misread() {
        promise = 26;
        // The head takes two dots 1, and two each of the dots 3 to 6.
        misread("thing but b *Beast, TEA; 1905. kindness a A *7? bb", 0, 1000, 0);
        misread("a", 0, 2, 1);
        misread("a", 0, 3, 0);
        misread("a, a", 1, 1, 0);
        misread("a, a,", 1, 1, 1);
        misread("a; a", 2, 3, 0);
        misread("a; a", 2, 2, 1);
        misread("*a", 3, 2, 1);
        misread("A", 5, 2, 1);
        misread("AB", 5, 3, 1);
        misread("AB", 5, 4, 0);
        misread("12", 4, 2, 1);
        misread("b", 4, 2, 1);
        misread("b", 5, 2, 1);
        misread("but", 1, 1, 0);
        misread("but but", 1, 1, 1);
        misread("i", 1, 1, 0);
        misread("c i", 0, 2, 1);
        misread("e i n", 3, 2, 2);
        misread("thing", 5, 3, 1);
        misread("kindness", 1, 2, 0);
        misread("kindness", 1, 1, 1);
        // A b that lost its dot 2 is an a: another word, but read.
        misread("ab ba", 1, 1, 1);
        // What is read as but, and was b behind the sign for letters.
        misread("b b", 4, 3, 1);
        misread("1 2 3", 2, 3, 2);
        signThatBecomesAnother();
    }

    /** A sign for letters without its dot 5 is one for great letters; the letters behind it are read all the same. */
    private static void signThatBecomesAnother() {
        Touchpress x = withCode();
        contract(x, 0, "xy", 1, Touchpress.ANY, 5, 0);
        contract(x, 0, "ab", 1, Touchpress.ANY, 5, 0);
        x.book(0, 1, 40, 3, true);
        addTo(x, 0, "ab Ab AB xy");
        due("marked", told(x, 0, 1), "4 1 0 1 6 1 1 0");
        x.renew(0, 4, 2);
        x.emboss(0, 0);
        is("the first one", 32, () -> x.felt(0, 0, 1, 2));
        is("a first one behind another", 32, () -> x.felt(0, 0, 1, 7));
        is("great letters where there are none, or fewer", 3, () -> x.ofCopy(0, 2));
        x.renew(0, 4, 6);
        x.emboss(0, 0);
        is("all felt", 0, () -> x.ofCopy(1, 2));
    }

    private static void splitMisread() {
        Touchpress x = withCode();
        divide(x, "c ab c");
        x.book(0, 1, 18, 3, true);
        addTo(x, 0, "k/kkkkkkkkkk Cabc, k");
        x.emboss(0, 0);
        is("a word in two pages, its hyphen left out", 0, () -> x.ofCopy(0, 2));
        // Two signs for numbers in the head, then the sign for great letters; the hyphen has the fourth dot 6.
        x.renew(1, 5, 2);
        x.emboss(1, 0);
        is("no great letter", 1, () -> x.ofCopy(1, 2));
        x.renew(1, 5, 3);
        x.emboss(1, 0);
        is("a hyphen without its dot 6 is left out, too", 0, () -> x.ofCopy(2, 2));
        is("it is felt so", 4, () -> x.felt(2, 0, 2, 17));
        x.reader(0);
        x.wish(0, 0);
        x.pass(1);
        x.giveBack(0, 1);
        is("the second page is hurt: two words", 2, () -> x.ofCopy(0, 2));
        is("no dots there", 0, () -> x.felt(0, 1, 0, 0));
        is("dots on the first page", 60, () -> x.felt(0, 0, 0, 0));
        is("the pins raised them all", 0, () -> x.ofCopy(0, 1));
        Touchpress y = withCode();
        divide(y, "c ab c");
        y.book(0, 1, 18, 5, true);
        addTo(y, 0, "k kkkkkkkkk Cabc, k Cabc, cabc, k");
        due("a word in the lines 1 and 2", told(y, 0, 2), "6 0 0 1 14 1 1 0");
        due("a word in the lines 2 and 3", told(y, 0, 5), "5 0 0 2 14 2 1 0");
        y.emboss(0, 0);
        is("words in two lines", 0, () -> y.ofCopy(0, 2));
        // The dots 2 are those of b and mark, of each of three words; the last one's mark is in the line 3.
        y.renew(1, 1, 1);
        y.emboss(1, 0);
        is("the first b is felt, its mark is not", 3, () -> y.ofCopy(1, 2));
        y.renew(1, 1, 5);
        y.emboss(1, 0);
        is("all but the last mark", 1, () -> y.ofCopy(2, 2));
    }

    private static void limitOfCopies() {
        promise = 24;
        Touchpress x = withCode();
        x.book(0, 0, 18, 3, true);
        x.book(0, 0, 18, 3, true);
        addTo(x, 0, "a");
        for (int i = 0; i < 20; i++) {
            int number = i;
            is("copy " + i, number, () -> x.emboss(number % 3, 0));
        }
        fails("the 21st", STATE, () -> x.emboss(0, 0));
        fails("no embosser", BOUNDS, () -> x.emboss(3, 0));
        is("the last one's book", 0, () -> x.ofCopy(19, 0));
    }

    // ---- promises 28 to 37

    private static void post() {
        reader();
        teach();
        wish();
        order();
        secret();
        pass();
        giveBack();
        late();
    }

    private static void reader() {
        promise = 28;
        Touchpress x = new Touchpress();
        fails("rank 3", ARGUMENT, () -> x.reader(3));
        fails("rank -1", ARGUMENT, () -> x.reader(-1));
        for (int i = 0; i < 6; i++) {
            int number = i;
            is("reader " + i, number, () -> x.reader(number % 3));
        }
        fails("the seventh", STATE, () -> x.reader(0));
        fails("the argument first", ARGUMENT, () -> x.reader(3));
    }

    private static void teach() {
        promise = 29;
        Touchpress x = withCode();
        x.code();
        x.reader(0);
        x.reader(0);
        contract(x, 0, "th", 1, 0, 57, 0);
        contract(x, 0, "but", 1, Touchpress.WHOLE, 3, 0);
        contract(x, 1, "er", 1, 0, 59, 0);
        x.book(0, 1, 40, 3, true);
        x.book(1, 1, 40, 3, true);
        x.book(0, 0, 40, 3, true);
        addTo(x, 0, "the other but b 12 x thth");
        addTo(x, 1, "the other but b 12 x thth");
        addTo(x, 2, "the other but b 12 x thth");
        promise = 30;
        is("of the code 0", 4, () -> x.unknown(0, 0));
        is("of the code 1", 1, () -> x.unknown(0, 1));
        is("of the grade 0", 0, () -> x.unknown(0, 2));
        promise = 29;
        is("the first", 1, () -> x.teach(0, 0, 1));
        is("again", 1, () -> x.teach(0, 0, 1));
        promise = 30;
        is("but is known, b is no matter", 3, () -> x.unknown(0, 0));
        promise = 29;
        is("of another code", 1, () -> x.teach(0, 1, 0));
        is("the second", 2, () -> x.teach(0, 0, 0));
        promise = 30;
        is("all known", 0, () -> x.unknown(0, 0));
        is("all known", 0, () -> x.unknown(0, 1));
        is("another reader", 4, () -> x.unknown(1, 0));
        fails("reader 2", BOUNDS, () -> x.unknown(2, 0));
        fails("reader -1", BOUNDS, () -> x.unknown(-1, 0));
        fails("book 3", BOUNDS, () -> x.unknown(0, 3));
        fails("book -1", BOUNDS, () -> x.unknown(0, -1));
        promise = 29;
        fails("reader 2", BOUNDS, () -> x.teach(2, 0, 0));
        fails("reader -1", BOUNDS, () -> x.teach(-1, 0, 0));
        fails("code 2", BOUNDS, () -> x.teach(0, 2, 0));
        fails("code -1", BOUNDS, () -> x.teach(0, -1, 0));
        fails("contraction 2", BOUNDS, () -> x.teach(0, 0, 2));
        fails("contraction -1", BOUNDS, () -> x.teach(0, 0, -1));
        fails("contraction 1 of the code 1", BOUNDS, () -> x.teach(0, 1, 1));
    }

    private static void wish() {
        promise = 31;
        Touchpress x = withCode();
        contract(x, 0, "th", 1, 0, 57, 0);
        x.book(0, 1, 40, 3, true);
        x.book(0, 1, 40, 3, true);
        addTo(x, 0, "the");
        x.reader(0);
        x.reader(0);
        fails("a word that the reader cannot read", STATE, () -> x.wish(0, 0));
        x.teach(0, 0, 0);
        is("the first", 1, () -> x.wish(0, 0));
        fails("the reader waits for it", STATE, () -> x.wish(0, 0));
        is("another book, without words", 1, () -> x.wish(1, 1));
        is("the second of it", 2, () -> x.wish(0, 1));
        fails("another reader", STATE, () -> x.wish(1, 0));
        fails("reader 2", BOUNDS, () -> x.wish(2, 0));
        fails("reader -1", BOUNDS, () -> x.wish(-1, 0));
        fails("book 2", BOUNDS, () -> x.wish(0, 2));
        fails("book -1", BOUNDS, () -> x.wish(0, -1));
        x.emboss(0, 0);
        is("sent", 1, () -> x.pass(1));
        fails("the reader has it", STATE, () -> x.wish(0, 0));
        x.giveBack(0, -1);
        is("again", 1, () -> x.wish(0, 0));
        Touchpress y = withCode();
        for (int i = 0; i < 4; i++) {
            y.book(0, 0, 18, 3, true);
        }
        for (int i = 0; i < 6; i++) {
            y.reader(0);
            for (int k = 0; k < 4; k++) {
                int reader = i;
                int book = k;
                is("all wishes that there can be", i + 1, () -> y.wish(reader, book));
            }
        }
    }

    private static void order() {
        promise = 36;
        Touchpress x = withCode();
        x.book(0, 0, 18, 3, true);
        x.book(0, 0, 18, 3, true);
        addTo(x, 0, "a");
        addTo(x, 1, "a");
        int[] ranks = {0, 1, 2, 1, 2, 0};
        for (int rank : ranks) {
            x.reader(rank);
        }
        for (int i = 0; i < 6; i++) {
            x.wish(i, 0);
        }
        x.wish(5, 1);
        int[] due = {4, 2, 0, 3, 1, 5};
        for (int i = 0; i < 6; i++) {
            int reader = i;
            is("ahead of " + i, due[i], () -> x.ahead(reader, 0));
        }
        is("of another book", 0, () -> x.ahead(5, 1));
        is("no wish", -1, () -> x.ahead(0, 1));
        fails("reader 6", BOUNDS, () -> x.ahead(6, 0));
        fails("reader -1", BOUNDS, () -> x.ahead(-1, 0));
        fails("book 2", BOUNDS, () -> x.ahead(0, 2));
        fails("book -1", BOUNDS, () -> x.ahead(0, -1));
        promise = 33;
        x.emboss(0, 0);
        x.emboss(0, 0);
        x.emboss(0, 1);
        is("three copies at once", 3, () -> x.pass(1));
        promise = 26;
        is("the highest rank, the first", 2, () -> x.ofCopy(0, 4));
        is("then the second of it", 4, () -> x.ofCopy(1, 4));
        is("the other book", 5, () -> x.ofCopy(2, 4));
        is("due", 21, () -> x.ofCopy(2, 5));
        is("sent once", 1, () -> x.ofCopy(2, 6));
        promise = 36;
        is("the wish is gone", -1, () -> x.ahead(2, 0));
        is("the others go on", 2, () -> x.ahead(0, 0));
        promise = 31;
        is("a later wish is behind", 2, () -> x.wish(4, 1) + x.wish(0, 1) - 1);
    }

    private static void secret() {
        promise = 32;
        Touchpress x = withCode();
        x.book(0, 0, 18, 3, true);
        addTo(x, 0, "a");
        x.reader(2);
        x.reader(0);
        x.emboss(0, 0);
        is("at first 0", 0, () -> x.secret(0, 5, 0));
        is("then what was told", 5, () -> x.secret(0, 1000, 63));
        is("in place of it", 1000, () -> x.secret(0, 0, 63));
        is("the day 0", 0, () -> x.secret(0, 3, 2));
        fails("book 1", BOUNDS, () -> x.secret(1, -1, 0));
        fails("book -1", BOUNDS, () -> x.secret(-1, 0, 0));
        fails("day -1", ARGUMENT, () -> x.secret(0, -1, 0));
        fails("day 1001", ARGUMENT, () -> x.secret(0, 1001, 0));
        fails("readers -1", ARGUMENT, () -> x.secret(0, 0, -1));
        fails("readers 64", ARGUMENT, () -> x.secret(0, 0, 64));
        x.wish(0, 0);
        is("the other may not", 0, () -> x.pass(2));
        is("on the day all may", 1, () -> x.pass(1));
        is("sent on the day 3", 23, () -> x.ofCopy(0, 5));
        is("told on the day 3", 3, () -> x.secret(0, 10, 2));
        is("copies that are with readers stay", 0, () -> x.ofCopy(0, 4));
        x.giveBack(0, -1);
        x.wish(0, 0);
        x.wish(1, 0);
        promise = 36;
        is("whoever may have it", 1, () -> x.ahead(1, 0));
        promise = 32;
        is("one who may", 1, () -> x.pass(1));
        is("the reader 1", 1, () -> x.ofCopy(0, 4));
        x.giveBack(0, -1);
        is("before the day 10", 0, () -> x.pass(5));
        is("the day 10", 1, () -> x.pass(1));
        is("the reader 0", 0, () -> x.ofCopy(0, 4));
    }

    private static void pass() {
        promise = 33;
        Touchpress x = withCode();
        for (int i = 0; i < 3; i++) {
            x.book(0, 0, 18, 3, true);
            addTo(x, i, "a");
            x.emboss(0, i);
        }
        x.reader(0);
        x.wish(0, 2);
        x.wish(0, 1);
        x.wish(0, 0);
        is("fewer than two copies: by rising numbers", 2, () -> x.pass(1));
        is("the first", 0, () -> x.ofCopy(0, 4));
        is("the second", 0, () -> x.ofCopy(1, 4));
        is("the third waits", -1, () -> x.ofCopy(2, 4));
        is("it waits on", 0, () -> x.pass(3));
        x.giveBack(0, -1);
        is("as the next day begins", 1, () -> x.pass(2));
        is("with its number", 25, () -> x.ofCopy(2, 5));
        fails("0 days", ARGUMENT, () -> x.pass(0));
        fails("-1 days", ARGUMENT, () -> x.pass(-1));
        fails("101 days", ARGUMENT, () -> x.pass(101));
        promise = 34;
        is("the day", 6, x::day);
        for (int i = 0; i < 9; i++) {
            x.pass(100);
        }
        promise = 33;
        is("94 more", 0, () -> x.pass(93));
        fails("1001", STATE, () -> x.pass(2));
        fails("the argument first", ARGUMENT, () -> x.pass(101));
        promise = 34;
        is("those changed nothing", 999, x::day);
        promise = 33;
        is("1000", 0, () -> x.pass(1));
        fails("1001", STATE, () -> x.pass(1));
        promise = 34;
        is("the last day", 1000, x::day);
        Touchpress y = withCode();
        y.book(0, 0, 18, 3, true);
        y.reader(1);
        y.wish(0, 0);
        promise = 33;
        is("no copy", 0, () -> y.pass(100));
        addTo(y, 0, "a");
        y.emboss(0, 0);
        y.emboss(0, 0);
        is("one wish, two copies", 1, () -> y.pass(100));
        is("sent on the first of these days", 121, () -> y.ofCopy(0, 5));
    }

    private static void giveBack() {
        promise = 35;
        Touchpress x = withCode();
        x.book(0, 0, 18, 3, true);
        addTo(x, 0, "a/b/c/d/e");
        x.emboss(0, 0);
        x.reader(0);
        fails("in the house", STATE, () -> x.giveBack(0, -1));
        fails("the page first", BOUNDS, () -> x.giveBack(0, 3));
        x.wish(0, 0);
        x.pass(1);
        fails("page 3", BOUNDS, () -> x.giveBack(0, 3));
        fails("page -2", BOUNDS, () -> x.giveBack(0, -2));
        fails("copy 1", BOUNDS, () -> x.giveBack(1, -1));
        fails("copy -1", BOUNDS, () -> x.giveBack(-1, -1));
        x.pass(20);
        is("on the day", 0, () -> x.giveBack(0, 1));
        promise = 26;
        due("in the house", toldOfCopy(x, 0), "0 0 2 1 -1 -1 1");
        promise = 35;
        x.wish(0, 0);
        is("one hurt page: it is sent", 1, () -> x.pass(1));
        x.pass(21);
        is("a day late", 1, () -> x.giveBack(0, 1));
        promise = 26;
        is("the same page again", 1, () -> x.ofCopy(0, 3));
        x.wish(0, 0);
        is("it is sent", 1, () -> x.pass(1));
        promise = 35;
        is("another page", 0, () -> x.giveBack(0, 2));
        promise = 26;
        due("two hurt pages", toldOfCopy(x, 0), "0 0 3 2 -1 -1 3");
        promise = 33;
        x.wish(0, 0);
        is("it is not sent any more", 0, () -> x.pass(10));
        x.emboss(0, 0);
        is("another one is", 1, () -> x.pass(10));
        promise = 26;
        is("that", 0, () -> x.ofCopy(1, 4));
        promise = 25;
        is("a page that is not hurt", 60, () -> x.felt(0, 0, 0, 0));
        is("one that is", 0, () -> x.felt(0, 2, 0, 0));
        promise = 27;
        is("sheets stay", 4, x::sheets);
    }

    private static void late() {
        promise = 37;
        Touchpress x = withCode();
        for (int i = 0; i < 3; i++) {
            x.book(0, 0, 18, 3, true);
            addTo(x, i, "a");
            x.emboss(0, i);
        }
        x.reader(0);
        x.reader(0);
        is("no copies", 0, () -> x.late(0));
        x.wish(0, 0);
        x.wish(0, 1);
        x.wish(1, 2);
        x.pass(1);
        x.pass(20);
        is("on the day", 0, () -> x.late(0));
        x.pass(3);
        is("two copies", 6, () -> x.late(0));
        is("one copy", 3, () -> x.late(1));
        x.giveBack(0, -1);
        x.pass(4);
        is("one that the reader had, one that the reader has", 3 + 7, () -> x.late(0));
        x.wish(0, 0);
        x.pass(1);
        is("a new one", 3 + 8, () -> x.late(0));
        x.giveBack(1, -1);
        x.giveBack(0, -1);
        x.pass(50);
        is("all given back", 11, () -> x.late(0));
        is("the other", 58, () -> x.late(1));
        fails("reader 2", BOUNDS, () -> x.late(2));
        fails("reader -1", BOUNDS, () -> x.late(-1));
        promise = 34;
        is("the day", 79, x::day);
    }
}
