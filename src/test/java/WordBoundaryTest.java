/** The boundary cases of the promises 8 to 13: one word, written, marked, and searched. */
public final class WordBoundaryTest extends Boundaries {
    private interface Asked {
        Object ask(Touchpress x, int code, int grade);
    }

    private static final Asked SIZE = (x, code, grade) -> x.size(code, grade);
    private static final Asked CELL = (x, code, grade) -> x.cell(code, grade, 0);
    private static final Asked MARKED = (x, code, grade) -> x.isMarked(code, grade);
    private static final Asked LEAST_CELLS = (x, code, grade) -> x.least(code, grade);
    private static final Asked WAYS = (x, code, grade) -> x.ways(code, grade);
    private static final Asked READINGS = (x, code, grade) -> x.readings(code, grade);
    private static final Asked[] ALL = {SIZE, CELL, MARKED, LEAST_CELLS, WAYS, READINGS};

    public static void main(String[] args) {
        arguments();
        tapes();
        size();
        cell();
        signs();
        grades();
        placesInLetters();
        longestOfLetters();
        endsOfParts();
        marked();
        placesInCells();
        longestOfCells();
        least();
        ways();
        readings();
        end();
    }

    // ---- what all six calls refuse

    private static void arguments() {
        for (int i = 0; i < ALL.length; i++) {
            promise(8 + i);
            Asked asked = ALL[i];
            for (int code : new int[] {-1, 2, 3, LEAST, MOST}) {
                test("the code " + code + " of two", times(2, newCode()), put("ab"), no(x -> asked.ask(x, code, 0), BOUNDS), is(x -> x.wipe(), 2));
            }
            test("the last code", times(2, newCode()), put("ab"), make(x -> asked.ask(x, 1, 0)), is(x -> x.wipe(), 2));
            for (int grade : new int[] {-1, 4, LEAST, MOST}) {
                test("the grade " + grade, newCode(), put("ab"), no(x -> asked.ask(x, 0, grade), ARGUMENT), is(x -> x.wipe(), 2));
            }
            for (int grade : new int[] {0, 3}) {
                test("the grade " + grade, newCode(), put("ab"), make(x -> asked.ask(x, 0, grade)), is(x -> x.wipe(), 2));
            }
            test("no code goes ahead of the grade", put("ab"), no(x -> asked.ask(x, 0, 4), BOUNDS));
            test("no code goes ahead of the tape", no(x -> asked.ask(x, 0, 0), BOUNDS));
            test("the grade goes ahead of the tape", newCode(), no(x -> asked.ask(x, 0, 4), ARGUMENT));
        }
        promise(9);
        test("the place goes ahead of the grade", newCode(), put("a"), no(x -> x.cell(0, 4, -1), BOUNDS));
        test("the place goes ahead of the tape", newCode(), no(x -> x.cell(0, 0, -1), BOUNDS));
    }

    private static void tapes() {
        for (int i = 0; i < ALL.length; i++) {
            promise(8 + i);
            Asked asked = ALL[i];
            for (String text : new String[] {"", "*", "a b", "a/b", "a|b", "a ", "a,,", "aB", "abcdefghijk", "1234567", "a+b", "(a)", "1 2"}) {
                test("the tape '" + text + "'", newCode(), put(text), no(x -> asked.ask(x, 0, 0), STATE), is(x -> x.wipe(), text.length()));
            }
            for (String word : new String[] {"a", "*a", "a,", "*ABCDEFGHIJ?", "Ab"}) {
                test("the word '" + word + "'", newCode(), put(word), make(x -> asked.ask(x, 0, 0)), is(x -> x.wipe(), word.length()));
            }
            boolean needsLetters = i >= 3;
            for (String digits : new String[] {"1", "*123456."}) {
                test("the digits '" + digits + "'", newCode(), put(digits),
                    needsLetters ? no(x -> asked.ask(x, 0, 0), STATE) : make(x -> asked.ask(x, 0, 0)), is(x -> x.wipe(), digits.length()));
            }
        }
    }

    // ---- promises 8 and 9

    /** Each a is read as zz: a word with one is marked. */
    private static Step marking() {
        return all(newCode(), contract(0, "zz", 1, Touchpress.ANY, 1, 0));
    }

    private static void size() {
        promise(8);
        test("one letter: one cell", newCode(), put("a"), is(x -> x.size(0, 0), 1));
        test("ten letters: ten cells", newCode(), put("abcdefghij"), is(x -> x.size(0, 3), 10));
        test("one digit: two cells", newCode(), put("7"), is(x -> x.size(0, 0), 2));
        test("six digits with star and mark: nine cells", newCode(), put("*123456,"), is(x -> x.size(0, 0), 9));
        test("star, two signs, ten letters and mark: fourteen cells", newCode(), put("*ABCDEFGHIJ,"), is(x -> x.size(0, 0), 14));
        test("marked too: fifteen cells", marking(), put("*ABCDEFGHIJ,"), is(x -> x.size(0, 1), 15), is(x -> x.cell(0, 1, 14), 2),
            is(x -> x.cell(0, 1, 15), -1));
        test("ten letters in two contractions of six and four", newCode(), contract(0, "abcdef", 1, 0, 63, 0), contract(0, "ghij", 1, 0, 55, 0),
            put("abcdefghij"), is(x -> x.size(0, 1), 2));
        test("a contraction of two cells", newCode(), contract(0, "ab", 1, 0, 63, 55), put("ab"), is(x -> x.size(0, 1), 2));
    }

    private static void cell() {
        promise(9);
        Step word = all(newCode(), put("*Ab,"));
        test("the first place", word, is(x -> x.cell(0, 0, 0), 40));
        test("the last place", word, is(x -> x.cell(0, 0, 4), 2));
        test("the place behind the last one", word, is(x -> x.cell(0, 0, 5), -1));
        test("a place far behind", word, is(x -> x.cell(0, 0, 16), -1), is(x -> x.cell(0, 0, 17), -1), is(x -> x.cell(0, 0, MOST), -1));
        for (int place : new int[] {-1, -2, LEAST}) {
            test("the place " + place, word, no(x -> x.cell(0, 0, place), BOUNDS), is(x -> x.wipe(), 4));
        }
    }

    private static void signs() {
        promise(9);
        test("the first and the last letter", newCode(), written(0, 0, "az", "1 53"));
        int[] cells = {1, 3, 9, 25, 17, 11, 27, 19, 10, 26, 5, 7, 13, 29, 21, 15, 31, 23, 14, 30, 37, 39, 58, 45, 61, 53};
        for (int i = 0; i < 26; i++) {
            test("the letter " + (char) ('a' + i), newCode(), written(0, 0, "" + (char) ('a' + i), "" + cells[i]),
                written(0, 0, "" + (char) ('A' + i), "32 " + cells[i]));
        }
        for (int i = 0; i < 10; i++) {
            test("the digit " + i, newCode(), written(0, 0, "" + i, "60 " + cells[(i + 9) % 10]));
        }
        test("w, that is out of the row", newCode(), written(0, 0, "vwx", "39 58 45"));
        test("the digits 1, 9 and 0", newCode(), written(0, 0, "190", "60 1 10 26"));
        test("zeros ahead stay", newCode(), written(0, 0, "000", "60 26 26 26"));
        test("one great letter: one sign", newCode(), written(0, 0, "A", "32 1"));
        test("two great letters: two signs", newCode(), written(0, 0, "AB", "32 32 1 3"));
        test("a great letter and a small one: one sign", newCode(), written(0, 0, "Ab", "32 1 3"));
        test("a star and one great letter", newCode(), written(0, 0, "*A", "40 32 1"));
        test("a star and digits", newCode(), written(0, 0, "*1", "40 60 1"));
        test("digits and a mark", newCode(), written(0, 0, "1.", "60 1 50"));
        test("the comma", newCode(), written(0, 0, "a,", "1 2"));
        test("the semicolon", newCode(), written(0, 0, "a;", "1 6"));
        test("the question mark", newCode(), written(0, 0, "a?", "1 38"));
        test("the point", newCode(), written(0, 0, "a.", "1 50"));
        test("a contraction of great letters", newCode(), contract(0, "ab", 1, 0, 63, 0), written(0, 1, "AB", "32 32 63"),
            written(0, 1, "Ab", "32 63"));
        test("a great letter in a marked word", marking(), written(0, 1, "*A,", "40 32 48 1 2"), written(0, 1, "AA", "32 32 48 1 1"));
    }

    private static void grades() {
        promise(9);
        for (int made = 1; made <= 3; made++) {
            int of = made;
            for (int asked = 0; asked <= 3; asked++) {
                test("a contraction of the grade " + made + " in the grade " + asked, newCode(), contract(0, "ab", of, 0, 63, 0),
                    written(0, asked, "ab", of <= asked ? "63" : "1 3"));
            }
        }
        test("a longer one above the grade", newCode(), contract(0, "abc", 3, 0, 63, 0), contract(0, "ab", 2, 0, 55, 0),
            written(0, 2, "abc", "55 9"), written(0, 3, "abc", "63"));
    }

    private static void placesIn(int place, String ab, String abc, String cab, String cabc) {
        Step made = all(newCode(), contract(0, "ab", 1, place, 63, 0));
        test("all of the row, the place " + place, made, written(0, 1, "ab", ab));
        test("the beginning of the row, the place " + place, made, written(0, 1, "abc", abc));
        test("the end of the row, the place " + place, made, written(0, 1, "cab", cab));
        test("the middle of the row, the place " + place, made, written(0, 1, "cabc", cabc));
        test("signs are not of the row, the place " + place, made, written(0, 1, "*AB,", "40 32 32 " + ab + " 2"));
    }

    private static void placesInLetters() {
        promise(9);
        placesIn(Touchpress.ANY, "63", "63 9", "9 63", "9 63 9");
        placesIn(Touchpress.WHOLE, "63", "1 3 9", "9 1 3", "9 1 3 9");
        placesIn(Touchpress.BEGINNING, "1 3", "63 9", "9 1 3", "9 1 3 9");
        placesIn(Touchpress.MIDDLE, "1 3", "1 3 9", "9 1 3", "9 63 9");
        placesIn(Touchpress.END, "1 3", "1 3 9", "9 63", "9 1 3 9");
    }

    private static void longestOfLetters() {
        promise(9);
        test("the most letters, told last", newCode(), contract(0, "ab", 1, 0, 63, 0), contract(0, "abc", 1, 0, 55, 0), written(0, 1, "abc", "55"));
        test("the most letters, told first", newCode(), contract(0, "abc", 1, 0, 55, 0), contract(0, "ab", 1, 0, 63, 0), written(0, 1, "abc", "55"));
        test("of several the first one", newCode(), contract(0, "ab", 1, 0, 62, 0), contract(0, "ab", 1, 0, 63, 0), written(0, 1, "ab", "62"));
        test("of several the first one that fits", newCode(), contract(0, "ab", 1, Touchpress.WHOLE, 62, 0), contract(0, "ab", 1, 0, 63, 0),
            written(0, 1, "abc", "63 9"));
        test("of several the first one in the grade", newCode(), contract(0, "ab", 2, 0, 62, 0), contract(0, "ab", 1, 0, 63, 0),
            written(0, 1, "ab", "63"), written(0, 2, "ab", "62"));
        test("the most letters that fit", newCode(), contract(0, "abc", 1, Touchpress.WHOLE, 55, 0), contract(0, "ab", 1, 0, 63, 0),
            written(0, 1, "abcd", "63 9 25"));
        test("one letter more than the word has", newCode(), contract(0, "abc", 1, 0, 63, 0), written(0, 1, "ab", "1 3"));
        test("all but the last letter", newCode(), contract(0, "abc", 1, 0, 63, 0), written(0, 1, "abd", "1 3 25"));
        test("all but the first letter", newCode(), contract(0, "abc", 1, 0, 63, 0), written(0, 1, "xbc", "45 3 9"), anew("xbc"), is(x -> x.least(0, 1), 3),
            is(x -> x.ways(0, 1), 1));
        test("the last letters of ten", newCode(), contract(0, "ij", 1, 0, 63, 0), written(0, 1, "abcdefghij", "1 3 9 25 17 11 27 19 63"));
        test("one behind the other", newCode(), contract(0, "ab", 1, 0, 63, 0), written(0, 1, "ababab", "63 63 63"));
        test("from the left: aa of aaa", newCode(), contract(0, "aa", 1, 0, 63, 0), written(0, 1, "aaa", "63 1"));
    }

    private static void endsOfParts() {
        promise(9);
        Step made = all(newCode(), contract(0, "ab", 1, 0, 63, 0), contract(0, "abc", 1, 0, 55, 0), contract(0, "bc", 1, 0, 62, 0));
        test("up to the end of a part", made, divide("ab cd"), written(0, 1, "abcd", "63 9 25"));
        test("one letter over the end of a part", made, divide("a bcd"), written(0, 1, "abcd", "1 62 25"));
        test("all of a part", made, divide("d abc d"), written(0, 1, "dabcd", "25 55 25"));
        test("over the end of the last but one part", made, divide("d a b c"), written(0, 1, "dabc", "25 1 3 9"));
        test("the last part", made, divide("d abc"), written(0, 1, "dabc", "25 55"));
        test("letters with one more than the divided ones", made, divide("ab cd"), written(0, 1, "abcde", "55 25 17"));
        test("letters with one less", made, divide("ab cd"), written(0, 1, "abc", "55"));
        test("the first part of them", made, divide("a b"), written(0, 1, "abc", "55"));
        test("great letters are divided too", made, divide("ab cd"), written(0, 1, "Abcd", "32 63 9 25"), written(0, 1, "ABCD", "32 32 63 9 25"));
        test("the row is that of all parts, WHOLE", newCode(), contract(0, "ab", 1, Touchpress.WHOLE, 63, 0), divide("ab c"), written(0, 1, "abc", "1 3 9"));
        test("the row is that of all parts, BEGINNING", newCode(), contract(0, "ab", 1, Touchpress.BEGINNING, 63, 0), divide("c ab c"), divide("ab c"),
            written(0, 1, "cabc", "9 1 3 9"), written(0, 1, "abc", "63 9"));
        test("the row is that of all parts, MIDDLE", newCode(), contract(0, "ab", 1, Touchpress.MIDDLE, 63, 0), divide("c ab c"), written(0, 1, "cabc", "9 63 9"));
        test("the row is that of all parts, END", newCode(), contract(0, "ab", 1, Touchpress.END, 63, 0), divide("ab c"), divide("c ab"),
            written(0, 1, "abc", "1 3 9"), written(0, 1, "cab", "9 63"));
        test("a marked one that is divided", marking(), divide("a b"), written(0, 1, "ab", "48 1 3"));
    }

    // ---- promise 10

    private static Step isMarked(String word, int grade, boolean due) {
        return all(anew(word), is(x -> x.isMarked(0, grade), due));
    }

    private static void marked() {
        promise(10);
        Step but = all(newCode(), contract(0, "but", 2, Touchpress.WHOLE, 3, 0));
        test("no contractions", newCode(), isMarked("ab", 3, false));
        test("a letter that is read as a contraction", but, isMarked("b", 2, true), isMarked("*B,", 2, true), written(0, 2, "b", "48 3"));
        test("one grade below the contraction", but, isMarked("b", 1, false), written(0, 1, "b", "3"));
        test("the letters of the contraction", but, isMarked("but", 2, false), written(0, 2, "but", "3"));
        test("digits", but, isMarked("2", 2, false), isMarked("22", 2, false), isMarked("*2.", 3, false));
        test("digits whose cells are read as a contraction", marking(), isMarked("1", 1, false), written(0, 1, "1", "60 1"));
        test("the right letters, read by another contraction", newCode(), contract(0, "ab", 1, 0, 63, 0), contract(0, "ab", 1, 0, 63, 0),
            isMarked("ab", 1, false));
        test("cells that are read as the same letters", newCode(), contract(0, "ab", 1, 0, 1, 3), isMarked("ab", 1, false), written(0, 1, "ab", "1 3"));
        test("the first letter is read as six: more than ten", newCode(), contract(0, "zzzzzz", 1, 0, 1, 0), isMarked("aaaaaaaaaa", 1, true),
            isMarked("aa", 1, true), isMarked("a", 1, true));
        test("as many letters, others", newCode(), contract(0, "zz", 1, 0, 1, 3), isMarked("ab", 1, true), isMarked("ba", 1, false));
        test("fewer letters are read", newCode(), contract(0, "abc", 1, 0, 5, 7), contract(0, "ab", 1, 0, 5, 7), isMarked("ab", 1, true),
            isMarked("abc", 1, false));
        test("cells that are not read: a cell of a second half", newCode(), contract(0, "ab", 1, 0, 63, 55), contract(0, "zz", 1, 0, 1, 63),
            isMarked("aab", 1, true), written(0, 1, "aab", "48 1 1 3"));
        test("a contraction of a marked word stands nowhere", newCode(), contract(0, "zz", 1, 0, 1, 0), contract(0, "bc", 1, 0, 63, 0),
            written(0, 1, "abc", "48 1 3 9"), written(0, 1, "bc", "63"));
    }

    private static void placesOfCells(int place, boolean b, boolean ba, boolean ab, boolean aba) {
        Step made = all(newCode(), contract(0, "xy", 1, place, 3, 0));
        test("all of the row of cells, the place " + place, made, isMarked("b", 1, b));
        test("the beginning of the row of cells, the place " + place, made, isMarked("ba", 1, ba));
        test("the end of the row of cells, the place " + place, made, isMarked("ab", 1, ab));
        test("the middle of the row of cells, the place " + place, made, isMarked("aba", 1, aba));
        test("signs are not of the row of cells, the place " + place, made, isMarked("*B,", 1, b), isMarked("*BA,", 1, ba));
    }

    private static void placesInCells() {
        promise(10);
        placesOfCells(Touchpress.ANY, true, true, true, true);
        placesOfCells(Touchpress.WHOLE, true, false, false, false);
        placesOfCells(Touchpress.BEGINNING, false, true, false, false);
        placesOfCells(Touchpress.MIDDLE, false, false, false, true);
        placesOfCells(Touchpress.END, false, false, true, false);
    }

    private static void longestOfCells() {
        promise(10);
        Step two = all(newCode(), contract(0, "xy", 1, 0, 1, 0), contract(0, "zz", 1, 0, 1, 3));
        test("the most cells are read first", two, isMarked("xyb", 1, true), isMarked("xyc", 1, false));
        test("two cells, of which only the first is left", newCode(), contract(0, "zz", 1, 0, 1, 3), isMarked("a", 1, false), isMarked("ba", 1, false));
        test("two cells, of which the second is another", newCode(), contract(0, "zz", 1, 0, 1, 3), isMarked("ac", 1, false), isMarked("ab", 1, true));
        test("two cells that are all of the row", newCode(), contract(0, "zz", 1, Touchpress.WHOLE, 1, 3), isMarked("ab", 1, true),
            isMarked("abc", 1, false), isMarked("cab", 1, false));
        test("two cells that begin the row", newCode(), contract(0, "zz", 1, Touchpress.BEGINNING, 1, 3), isMarked("ab", 1, false),
            isMarked("abc", 1, true), isMarked("cab", 1, false));
        test("two cells in the middle of the row", newCode(), contract(0, "zz", 1, Touchpress.MIDDLE, 1, 3), isMarked("ab", 1, false),
            isMarked("abc", 1, false), isMarked("cab", 1, false), isMarked("cabc", 1, true));
        test("two cells that end the row", newCode(), contract(0, "zz", 1, Touchpress.END, 1, 3), isMarked("ab", 1, false),
            isMarked("abc", 1, false), isMarked("cab", 1, true));
        test("of several the first one is read", newCode(), contract(0, "ab", 1, 0, 63, 0), contract(0, "cd", 1, 0, 63, 0), isMarked("ab", 1, false),
            isMarked("cd", 1, true));
        test("of several the first one in the grade is read", newCode(), contract(0, "ab", 2, 0, 63, 0), contract(0, "cd", 1, 0, 63, 0),
            isMarked("cd", 1, false), isMarked("cd", 2, true), isMarked("ab", 2, false));
        test("of several the first one that fits is read", newCode(), contract(0, "ab", 1, Touchpress.WHOLE, 63, 0), contract(0, "cd", 1, 0, 63, 0),
            isMarked("cd", 1, true), isMarked("cde", 1, false), isMarked("ab", 1, false));
    }

    // ---- promises 11 to 13

    private static Step fewest(String word, int grade, int due) {
        return all(anew(word), is(x -> x.least(0, grade), due));
    }

    private static void least() {
        promise(11);
        test("one letter", newCode(), fewest("a", 3, 1));
        test("ten letters without contractions", newCode(), fewest("abcdefghij", 3, 10));
        test("star, signs and mark are no letters", newCode(), fewest("*AB,", 3, 2));
        test("all letters in one", newCode(), contract(0, "abcdef", 1, 0, 63, 0), fewest("abcdef", 1, 1));
        test("a grade below", newCode(), contract(0, "abcdef", 2, 0, 63, 0), fewest("abcdef", 1, 6), fewest("abcdef", 2, 1));
        test("two cells for two letters gain nothing", newCode(), contract(0, "ab", 1, 0, 63, 55), fewest("ab", 1, 2));
        test("two cells for three letters gain one", newCode(), contract(0, "abc", 1, 0, 63, 55), fewest("abc", 1, 2));
        test("the one of two cells against the one of one", newCode(), contract(0, "ab", 1, 0, 63, 55), contract(0, "ab", 1, 0, 62, 0), fewest("ab", 1, 1));
        test("fewer than from the left to the right", newCode(), contract(0, "ab", 1, 0, 63, 0), contract(0, "bcdef", 1, 0, 55, 0),
            fewest("abcdef", 1, 2), is(x -> x.size(0, 1), 5));
        test("one that does not fit", newCode(), contract(0, "ab", 1, Touchpress.END, 63, 0), fewest("ab", 1, 2), fewest("cab", 1, 2), fewest("abc", 1, 3));
        test("up to the end of a part", newCode(), contract(0, "ab", 1, 0, 63, 0), divide("ab c"), fewest("abc", 1, 2));
        test("over the end of a part", newCode(), contract(0, "ab", 1, 0, 63, 0), divide("a bc"), fewest("abc", 1, 3), fewest("ab", 1, 1));
        test("a marked word too", newCode(), contract(0, "ab", 1, 0, 63, 0), contract(0, "zz", 1, 0, 9, 0), fewest("abc", 1, 2), is(x -> x.isMarked(0, 1), true));
        test("asked in turn of unlike words", newCode(), contract(0, "ab", 1, 0, 63, 0), fewest("ababababab", 1, 5), fewest("b", 1, 1), fewest("ab", 1, 1));
    }

    private static Step ways(String word, int grade, long due) {
        return all(anew(word), is(x -> x.ways(0, grade), due));
    }

    private static void ways() {
        promise(12);
        test("no contractions: one row", newCode(), ways("abcdefghij", 3, 1), ways("a", 0, 1));
        test("one contraction, one place: two rows", newCode(), contract(0, "ab", 1, 0, 63, 0), ways("ab", 1, 2));
        test("a grade below", newCode(), contract(0, "ab", 2, 0, 63, 0), ways("ab", 1, 1), ways("ab", 2, 2));
        test("like contractions with unlike numbers: three rows", newCode(), times(2, contract(0, "ab", 1, 0, 63, 0)), ways("ab", 1, 3));
        test("contractions that overlap", newCode(), contract(0, "aa", 1, 0, 63, 0), ways("aaa", 1, 3), ways("aaaa", 1, 5));
        test("one that does not fit", newCode(), contract(0, "ab", 1, Touchpress.WHOLE, 63, 0), ways("ab", 1, 2), ways("abc", 1, 1));
        test("up to the end of a part", newCode(), contract(0, "ab", 1, 0, 63, 0), divide("ab c"), ways("abc", 1, 2));
        test("over the end of a part", newCode(), contract(0, "ab", 1, 0, 63, 0), divide("a bc"), ways("abc", 1, 1), ways("ab", 1, 2));
        test("star, signs and mark are no matter", newCode(), contract(0, "ab", 1, 0, 63, 0), ways("*AB,", 1, 2), ways("Ab", 1, 2));
        test("a row that is written with as many cells", newCode(), contract(0, "ab", 1, 0, 1, 3), ways("ab", 1, 2));
        test("the most rows of ten letters", newCode(), times(24, contract(0, "aa", 1, 0, 63, 0)), ways("aaaaaaaaaa", 1, 13439449));
        test("a marked word too", newCode(), contract(0, "ab", 1, 0, 63, 0), contract(0, "zz", 1, 0, 9, 0), ways("abc", 1, 2));
    }

    private static Step readings(String word, int grade, long due) {
        return all(anew(word), is(x -> x.readings(0, grade), due));
    }

    private static void readings() {
        promise(13);
        test("no contractions: one reading", newCode(), readings("abcdefghij", 3, 1), readings("a", 0, 1));
        test("a cell that is a letter and a contraction: two", newCode(), contract(0, "zz", 1, 0, 1, 0), readings("a", 1, 2));
        test("a grade below", newCode(), contract(0, "zz", 2, 0, 1, 0), readings("a", 1, 1), readings("a", 2, 2));
        test("a contraction whose cell is no letter: one", newCode(), contract(0, "ab", 1, 0, 63, 0), readings("ab", 1, 1));
        test("two of them: two", newCode(), contract(0, "ab", 1, 0, 63, 0), contract(0, "cd", 1, 0, 63, 0), readings("ab", 1, 2), readings("cd", 1, 2));
        test("like contractions with unlike numbers: two", newCode(), times(2, contract(0, "ab", 1, 0, 63, 0)), readings("ab", 1, 2));
        test("the cells of a marked word are those found, not those written", newCode(), contract(0, "ab", 1, 0, 63, 0), contract(0, "zz", 1, 0, 9, 0),
            is(x -> x.wipe(), 0), readings("abc", 1, 2), is(x -> x.isMarked(0, 1), true), is(x -> x.size(0, 1), 4));
        test("one that does not fit in the row of cells", newCode(), contract(0, "zz", 1, Touchpress.BEGINNING, 1, 0), readings("a", 1, 1),
            readings("ab", 1, 2), readings("ba", 1, 1));
        test("two cells: one by one, or together", newCode(), contract(0, "zz", 1, 0, 1, 3), readings("ab", 1, 2), readings("a", 1, 1), readings("ba", 1, 1));
        test("readings need not be of so few letters", newCode(), contract(0, "zzzzzz", 1, 0, 1, 0), readings("aaaaaaaaaa", 1, 1024));
        test("ends of parts are no matter to the cells", newCode(), contract(0, "zz", 1, 0, 1, 3), divide("a b"), readings("ab", 1, 2));
        test("more than an int: 25 times itself, ten times", newCode(), times(24, contract(0, "zz", 1, 0, 1, 0)), readings("aaaaaaaaaa", 1, 95367431640625L));
        test("star, signs and mark are no matter", newCode(), contract(0, "zz", 1, 0, 1, 0), readings("*A,", 1, 2), readings("AA", 1, 4));
    }
}
