/** The boundary cases of the promises 1 to 7: a new house, the tape, codes, contractions, divisions. */
public final class TapeBoundaryTest extends Boundaries {
    private static final String SIXTY = "abcdefghij klmnopqrst uvwxyzabcd efghijklmn opqrstuvwx yzabc";
    private static final int[] SIGNS = {40, 32, 48, 60, 36};
    private static final int[] MARKS = {2, 6, 38, 50};

    public static void main(String[] args) {
        newHouse();
        typeSizes();
        typeCharacters();
        typeFull();
        wipe();
        faultOfWords();
        faultOfTexts();
        codes();
        contractionLetters();
        contractionNumbers();
        contractionCells();
        contractionLimits();
        divisionWords();
        divisionLimits();
        end();
    }

    // ---- promise 1

    private static void newHouse() {
        promise(1);
        test("the day is 0", is(x -> x.day(), 0));
        test("the tape is empty", is(x -> x.fault(), 0), is(x -> x.formulaFault(), 0), is(x -> x.wipe(), 0));
        test("no sheets were taken", is(x -> x.sheets(), 0));
        test("no code 0", put("a"), no(x -> x.size(0, 0), BOUNDS), no(x -> x.cell(0, 0, 0), BOUNDS),
            no(x -> x.isMarked(0, 0), BOUNDS), no(x -> x.least(0, 0), BOUNDS), no(x -> x.ways(0, 0), BOUNDS),
            no(x -> x.readings(0, 0), BOUNDS), no(x -> x.book(0, 0, 18, 3, true), BOUNDS), is(x -> x.wipe(), 1));
        test("no code 0 for a contraction", put("ab"), no(x -> x.contraction(0, 1, 0, 1, 0), BOUNDS));
        test("no book 0", put("a"), no(x -> x.add(0), BOUNDS), no(x -> x.word(0, 0, 0), BOUNDS), no(x -> x.ofBook(0, 0), BOUNDS),
            no(x -> x.at(0, 0, 0, 0), BOUNDS), no(x -> x.emboss(0, 0), BOUNDS), no(x -> x.secret(0, 0, 0), BOUNDS));
        test("no copy 0", no(x -> x.felt(0, 0, 0, 0), BOUNDS), no(x -> x.ofCopy(0, 0), BOUNDS), no(x -> x.giveBack(0, -1), BOUNDS));
        test("no reader 0", newCode(), newBook(0, 0, 18, 3, true), contract(0, "ab", 1, 0, 1, 0), no(x -> x.teach(0, 0, 0), BOUNDS),
            no(x -> x.unknown(0, 0), BOUNDS), no(x -> x.wish(0, 0), BOUNDS), no(x -> x.ahead(0, 0), BOUNDS),
            no(x -> x.late(0), BOUNDS));
        test("a first code has the number 0", is(x -> x.code(), 0));
        test("a first reader has the number 0", is(x -> x.reader(0), 0));
        test("what another house was told is not told to a new one", is(x -> {
            new Touchpress().type('a', 1);
            return x.wipe();
        }, 0));
    }

    // ---- promise 2

    private static void typeSizes() {
        promise(2);
        test("n is 1, the fewest", is(x -> x.type('a', 1), 1), is(x -> x.wipe(), 1));
        test("n is 8, the most", is(x -> x.type(0x6867666564636261L, 8), 8), is(x -> x.fault(), -1), is(x -> x.wipe(), 8));
        for (int n : new int[] {0, -1, -8, LEAST, 9, 10, 16, MOST}) {
            test("n is " + n, put("ab"), no(x -> x.type(0x6161616161616161L, n), ARGUMENT), is(x -> x.wipe(), 2));
        }
        test("the lowest 8 bits are the first character", is(x -> x.type('*' | 'a' << 8 | ',' << 16, 3), 3), is(x -> x.fault(), -1));
        test("the highest 8 bits are the eighth one", is(x -> x.type(0x2c61616161616161L, 8), 8), is(x -> x.fault(), -1));
        test("each n takes as many as it says", is(x -> x.type(0x6161616161616161L, 2), 2), is(x -> x.type(0x6161616161616161L, 3), 5),
            is(x -> x.type(0x6161616161616161L, 4), 9), is(x -> x.type(0x6161616161616161L, 5), 14),
            is(x -> x.type(0x6161616161616161L, 6), 20), is(x -> x.type(0x6161616161616161L, 7), 27));
        test("what stands above the n characters is no matter", is(x -> x.type(0xffffffffffffff61L, 1), 1),
            is(x -> x.type(0x0061616161616161L, 7), 8), is(x -> x.type(0xff61616161616161L, 7), 15), is(x -> x.wipe(), 15));
    }

    private static void typeCharacters() {
        promise(2);
        String others = " ,.;?*/|+-^()";
        for (int c = 0; c < 256; c++) {
            int typed = c;
            boolean can = c >= 'a' && c <= 'z' || c >= 'A' && c <= 'Z' || c >= '0' && c <= '9' || others.indexOf(c) >= 0;
            test("the character " + c, can ? is(x -> x.type(typed, 1), 1) : no(x -> x.type(typed, 1), ARGUMENT),
                is(x -> x.wipe(), can ? 1 : 0));
        }
        for (int i = 0; i < 8; i++) {
            long spoiled = 0x6161616161616161L ^ (0x61L ^ '!') << 8 * i;
            test("the character " + i + " of eight cannot be", put("b"), no(x -> x.type(spoiled, 8), ARGUMENT), is(x -> x.wipe(), 1));
        }
        test("the eighth character is 255", no(x -> x.type(0xff61616161616161L, 8), ARGUMENT), is(x -> x.wipe(), 0));
        test("the eighth character is 128 + a", no(x -> x.type(0xe161616161616161L, 8), ARGUMENT), is(x -> x.wipe(), 0));
        test("all of -1", no(x -> x.type(-1L, 1), ARGUMENT), no(x -> x.type(-1L, 8), ARGUMENT), is(x -> x.wipe(), 0));
        test("no character at all", no(x -> x.type(0L, 1), ARGUMENT), no(x -> x.type(0L, 8), ARGUMENT), is(x -> x.wipe(), 0));
    }

    private static void typeFull() {
        promise(2);
        test("the 60th character", put(SIXTY.substring(0, 59)), is(x -> x.type('z', 1), 60), is(x -> x.wipe(), 60));
        test("the 61st character", put(SIXTY), no(x -> x.type('z', 1), STATE), is(x -> x.fault(), -1), is(x -> x.wipe(), 60));
        test("eight up to 60", put(SIXTY.substring(0, 52)), is(x -> x.type(0x6161616161616161L, 8), 60));
        test("eight up to 61: none of them is typed", put(SIXTY.substring(0, 53)), no(x -> x.type(0x6161616161616161L, 8), STATE),
            is(x -> x.wipe(), 53));
        test("two up to 61", put(SIXTY.substring(0, 59)), no(x -> x.type(0x6161L, 2), STATE), is(x -> x.type('a', 1), 60));
        test("eight on a full tape", put(SIXTY), no(x -> x.type(0x6161616161616161L, 8), STATE), is(x -> x.wipe(), 60));
        test("a full tape, and a character that cannot be", put(SIXTY), no(x -> x.type('!', 1), ARGUMENT), is(x -> x.wipe(), 60));
        test("a full tape, and n is 0", put(SIXTY), no(x -> x.type('a', 0), ARGUMENT), is(x -> x.wipe(), 60));
        test("a full tape that was wiped", put(SIXTY), is(x -> x.wipe(), 60), is(x -> x.type('a', 1), 1));
    }

    // ---- promise 3

    private static void wipe() {
        promise(3);
        test("an empty tape", is(x -> x.wipe(), 0), is(x -> x.wipe(), 0));
        test("a tape of one character", put("("), is(x -> x.wipe(), 1), is(x -> x.wipe(), 0));
        test("a full tape", put(SIXTY), is(x -> x.wipe(), 60), is(x -> x.fault(), 0), is(x -> x.wipe(), 0));
        test("what was wiped does not come back", put("*ab,"), is(x -> x.wipe(), 4), put("c"), is(x -> x.fault(), -1),
            newCode(), is(x -> x.size(0, 0), 1), is(x -> x.wipe(), 1));
    }

    // ---- promise 4

    private static void faultOf(String text, int due) {
        test("the fault of '" + text + "'", put(text), is(x -> x.fault(), due), is(x -> x.wipe(), text.length()));
    }

    private static void faultOfWords() {
        promise(4);
        faultOf("", 0);
        faultOf("a", -1);
        faultOf("abcdefghij", -1);
        faultOf("abcdefghijk", 10);
        faultOf("A", -1);
        faultOf("Ab", -1);
        faultOf("Abcdefghij", -1);
        faultOf("Abcdefghijk", 10);
        faultOf("AB", -1);
        faultOf("ABCDEFGHIJ", -1);
        faultOf("ABCDEFGHIJK", 10);
        faultOf("*abcdefghij.", -1);
        faultOf("*abcdefghijk", 11);
        faultOf("aB", 1);
        faultOf("abC", 2);
        faultOf("AbC", 2);
        faultOf("ABc", 2);
        faultOf("ABCDEFGHIj", 9);
        faultOf("1", -1);
        faultOf("0", -1);
        faultOf("123456", -1);
        faultOf("1234567", 6);
        faultOf("*123456?", -1);
        faultOf("*1234567", 7);
        faultOf("1a", 1);
        faultOf("1A", 1);
        faultOf("a1", 1);
        faultOf("A1", 1);
        faultOf("*", 1);
        faultOf("**", 1);
        faultOf("*,", 1);
        faultOf("* a", 1);
        faultOf("a*", 1);
        faultOf("a,*", 2);
        faultOf("a,", -1);
        faultOf("a.", -1);
        faultOf("a;", -1);
        faultOf("a?", -1);
        faultOf("abcdefghij,", -1);
        faultOf("123456;", -1);
        faultOf("a,,", 2);
        faultOf("a,.", 2);
        faultOf("a,b", 2);
        faultOf("a,1", 2);
        faultOf(",", 0);
        faultOf("?a", 0);
        for (String other : new String[] {"+", "-", "^", "(", ")"}) {
            faultOf(other, 0);
            faultOf("a" + other, 1);
            faultOf("*" + other, 1);
            faultOf("1" + other, 1);
            faultOf("a," + other, 2);
            faultOf("a " + other, 2);
        }
    }

    private static void faultOfTexts() {
        promise(4);
        for (String between : new String[] {" ", "/", "|"}) {
            faultOf("a" + between + "b", -1);
            faultOf("*a," + between + "*12.", -1);
            faultOf(between, 0);
            faultOf(between + "a", 0);
            faultOf("a" + between, 2);
            faultOf("a" + between + " ", 2);
            faultOf("a" + between + "/", 2);
            faultOf("a" + between + "|", 2);
            faultOf("a" + between + ",", 2);
            faultOf("a" + between + "*", 3);
            faultOf("a" + between + "bC", 3);
        }
        faultOf("abcdefghij abcdefghij", -1);
        faultOf("abcdefghij abcdefghijk", 21);
        faultOf("123456 123456", -1);
        faultOf("123456 1234567", 13);
        faultOf("a 1/B|cd", -1);
        faultOf(SIXTY, -1);
        faultOf("abcde ".repeat(10), 60);
        faultOf("abcde ".repeat(9) + "abcd *", 60);
        faultOf("abcde ".repeat(9) + "abcd,,", 59);
        faultOf("a ".repeat(29) + "ab", -1);
        faultOf("a ".repeat(29) + "aB", 59);
        faultOf("a".repeat(60), 10);
        faultOf("1".repeat(60), 6);
        faultOf(" ".repeat(60), 0);
        test("the fault moves with what is typed", is(x -> x.fault(), 0), put("*"), is(x -> x.fault(), 1), put("a"), is(x -> x.fault(), -1),
            put(" "), is(x -> x.fault(), 3), put(" "), is(x -> x.fault(), 3), put("a"), is(x -> x.fault(), 3));
    }

    // ---- promise 5

    private static void codes() {
        promise(5);
        test("three codes", is(x -> x.code(), 0), is(x -> x.code(), 1), is(x -> x.code(), 2));
        test("a fourth code", times(3, newCode()), no(x -> x.code(), STATE), put("a"), no(x -> x.size(3, 0), BOUNDS),
            is(x -> x.size(2, 0), 1));
        test("a code has no contractions", newCode(), contract(0, "ab", 1, 0, 1, 0), newCode(), make(x -> x.reader(0)),
            no(x -> x.teach(0, 1, 0), BOUNDS), put("cd"), is(x -> x.contraction(1, 1, 0, 1, 0), 0));
    }

    // ---- promise 6

    private static void contractionLetters() {
        promise(6);
        test("two letters, the fewest", newCode(), put("ab"), is(x -> x.contraction(0, 1, 0, 1, 0), 0), is(x -> x.wipe(), 0));
        test("six letters, the most", newCode(), put("azazaz"), is(x -> x.contraction(0, 1, 0, 1, 0), 0), is(x -> x.wipe(), 0),
            written(0, 1, "azazaz", "1"));
        for (String letters : new String[] {"", "a", "abcdefg", "Ab", "AB", "aB", "a b", "ab ", "*ab", "ab.", "a1", "12", "a/b", "a+b"}) {
            test("the letters '" + letters + "'", newCode(), put(letters), no(x -> x.contraction(0, 1, 0, 1, 0), ARGUMENT),
                is(x -> x.wipe(), letters.length()), put("ab"), is(x -> x.contraction(0, 1, 0, 1, 0), 0));
        }
        test("the same letters again", newCode(), contract(0, "ab", 1, 0, 1, 0), put("ab"), is(x -> x.contraction(0, 1, 0, 1, 0), 1));
        test("the letters do not stay on the tape", newCode(), contract(0, "ab", 1, 0, 1, 0),
            no(x -> x.contraction(0, 1, 0, 1, 0), ARGUMENT), put("cd"), is(x -> x.contraction(0, 1, 0, 1, 0), 1));
    }

    private static void contractionNumbers() {
        promise(6);
        for (int grade : new int[] {1, 2, 3}) {
            test("the grade " + grade, newCode(), put("ab"), is(x -> x.contraction(0, grade, 0, 63, 0), 0),
                written(0, grade, "ab", "63"), written(0, grade - 1, "ab", "1 3"));
        }
        for (int grade : new int[] {0, -1, 4, LEAST, MOST}) {
            test("the grade " + grade, newCode(), put("ab"), no(x -> x.contraction(0, grade, 0, 1, 0), ARGUMENT), is(x -> x.wipe(), 2));
        }
        for (int place : new int[] {Touchpress.ANY, Touchpress.WHOLE, Touchpress.BEGINNING, Touchpress.MIDDLE, Touchpress.END}) {
            test("the place " + place, newCode(), put("ab"), is(x -> x.contraction(0, 1, place, 1, 0), 0), is(x -> x.wipe(), 0));
        }
        for (int place : new int[] {-1, 5, LEAST, MOST}) {
            test("the place " + place, newCode(), put("ab"), no(x -> x.contraction(0, 1, place, 1, 0), ARGUMENT), is(x -> x.wipe(), 2));
        }
        for (int number : new int[] {-1, 2, 3, LEAST, MOST}) {
            test("of the code " + number, times(2, newCode()), put("ab"), no(x -> x.contraction(number, 1, 0, 1, 0), BOUNDS),
                is(x -> x.wipe(), 2));
        }
        test("numbers are counted in each code", times(3, newCode()), contract(0, "ab", 1, 0, 1, 0), put("ab"),
            is(x -> x.contraction(2, 1, 0, 1, 0), 0), put("ab"), is(x -> x.contraction(0, 1, 0, 1, 0), 1));
        test("no code goes ahead of all else", newCode(), put("a"), no(x -> x.contraction(1, 0, 9, 0, 99), BOUNDS));
    }

    private static void contractionCells() {
        promise(6);
        for (int cell : new int[] {1, 63}) {
            test("the cell " + cell + " first", newCode(), put("ab"), is(x -> x.contraction(0, 1, 0, cell, 0), 0),
                written(0, 1, "ab", "" + cell));
            test("the cell " + cell + " second", newCode(), put("ab"), is(x -> x.contraction(0, 1, 0, 5, cell), 0),
                written(0, 1, "ab", "5 " + cell));
        }
        for (int cell : new int[] {-1, 64, 65, LEAST, MOST}) {
            test("the cell " + cell + ", that is none", newCode(), put("ab"), no(x -> x.contraction(0, 1, 0, cell, 0), ARGUMENT),
                no(x -> x.contraction(0, 1, 0, 1, cell), ARGUMENT), is(x -> x.wipe(), 2));
        }
        test("a blank cell first", newCode(), put("ab"), no(x -> x.contraction(0, 1, 0, 0, 0), ARGUMENT),
            no(x -> x.contraction(0, 1, 0, 0, 1), ARGUMENT), is(x -> x.wipe(), 2));
        test("0 second: one cell", newCode(), put("ab"), is(x -> x.contraction(0, 1, 0, 7, 0), 0), written(0, 1, "ab", "7"));
        for (int cell : SIGNS) {
            test("the sign " + cell, newCode(), put("ab"), no(x -> x.contraction(0, 1, 0, cell, 0), ARGUMENT),
                no(x -> x.contraction(0, 1, 0, 1, cell), ARGUMENT), is(x -> x.wipe(), 2));
        }
        for (int cell : MARKS) {
            test("the mark " + cell, newCode(), put("ab"), no(x -> x.contraction(0, 1, 0, cell, 0), ARGUMENT),
                no(x -> x.contraction(0, 1, 0, 1, cell), ARGUMENT), is(x -> x.wipe(), 2));
        }
        for (int cell = 1; cell < 64; cell++) {
            int made = cell;
            boolean isFree = true;
            for (int sign : SIGNS) {
                isFree &= sign != cell;
            }
            for (int mark : MARKS) {
                isFree &= mark != cell;
            }
            if (isFree) {
                test("the cell " + cell + " twice", newCode(), put("ab"), is(x -> x.contraction(0, 1, 0, made, made), 0));
            }
        }
    }

    private static void contractionLimits() {
        promise(6);
        Step full = all(times(2, newCode()), times(24, contract(0, "ab", 1, 0, 1, 0)));
        test("the 24th of a code", newCode(), times(23, contract(0, "ab", 1, 0, 1, 0)), put("cd"),
            is(x -> x.contraction(0, 1, 0, 7, 0), 23), written(0, 1, "cd", "7"));
        test("the 25th of a code", full, put("cd"), no(x -> x.contraction(0, 1, 0, 7, 0), STATE), is(x -> x.wipe(), 2),
            written(0, 1, "cd", "9 25"));
        test("another code behind a full one", full, put("cd"), is(x -> x.contraction(1, 1, 0, 7, 0), 0));
        test("a full code, and letters that cannot be", full, put("c"), no(x -> x.contraction(0, 1, 0, 7, 0), ARGUMENT));
        test("a full code, and a cell that cannot be", full, put("cd"), no(x -> x.contraction(0, 1, 0, 40, 0), ARGUMENT));
        test("a book of the code without words", newCode(), newBook(0, 3, 18, 3, true), put("cd"), is(x -> x.contraction(0, 1, 0, 7, 0), 0));
        test("a book of the code with words", newCode(), newBook(0, 0, 18, 3, true), add(0, "a"), put("cd"),
            no(x -> x.contraction(0, 1, 0, 7, 0), STATE), is(x -> x.wipe(), 2));
        test("a book of the code with words, and a cell that cannot be", newCode(), newBook(0, 0, 18, 3, true), add(0, "a"), put("cd"),
            no(x -> x.contraction(0, 1, 0, 0, 0), ARGUMENT), is(x -> x.wipe(), 2));
        test("only the second book of the code has words", newCode(), times(2, newBook(0, 1, 18, 3, true)), add(1, "a"), put("cd"),
            no(x -> x.contraction(0, 1, 0, 7, 0), STATE));
        test("only a book of another code has words", times(2, newCode()), newBook(0, 1, 18, 3, true), newBook(1, 1, 18, 3, true),
            add(0, "a"), put("cd"), is(x -> x.contraction(1, 1, 0, 7, 0), 0));
    }

    // ---- promise 7

    private static void divisionWords() {
        promise(7);
        test("two parts, the fewest", put("a b"), is(x -> x.division(), 2), is(x -> x.wipe(), 0));
        test("four parts, the most", put("a b c d"), is(x -> x.division(), 4), is(x -> x.wipe(), 0));
        test("ten letters, the most", put("abcdefghi j"), is(x -> x.division(), 10), is(x -> x.wipe(), 0));
        test("ten letters in four parts", put("abc def gh ij"), is(x -> x.division(), 10));
        String[] wrong = {"", "a", "ab", "abcdefghij", "a b c d e", "abcdefghij k", "a bcdefghijk", "abc def ghi jk", "a/b", "a|b", "a b/c",
            "A b", "a B", "AB cd", "a *b", "*a b", "a b,", "a. b", "a 1", "1 2", "a b ", " a b", "a  b", "a ", "a+b", "a b)"};
        for (String parts : wrong) {
            test("the parts '" + parts + "'", put(parts), no(x -> x.division(), ARGUMENT), is(x -> x.wipe(), parts.length()));
        }
        test("no part is there behind it", put("a b"), make(x -> x.division()), no(x -> x.division(), ARGUMENT));
    }

    private static void divisionLimits() {
        promise(7);
        Step eleven = all();
        for (int i = 0; i < 11; i++) {
            eleven = all(eleven, divide("m " + (char) ('a' + i)));
        }
        Step most = all(eleven, divide("m no"));
        test("the 12th", eleven, put("x y"), is(x -> x.division(), 2));
        test("the 13th", most, put("x y"), no(x -> x.division(), STATE), is(x -> x.wipe(), 3));
        test("the 13th, and it is none", most, put("x y,"), no(x -> x.division(), ARGUMENT), is(x -> x.wipe(), 4));
        test("a word that is divided so", divide("ab cd"), put("ab cd"), no(x -> x.division(), STATE), is(x -> x.wipe(), 5));
        test("a word that is divided otherwise", divide("ab cd"), put("a b c d"), no(x -> x.division(), STATE), is(x -> x.wipe(), 7),
            codeWith(0), written(0, 1, "abcd", "63 9 25"));
        test("a word that begins with a divided one", divide("ab cd"), put("ab cde"), is(x -> x.division(), 5));
        test("a word with which a divided one begins", divide("ab cd"), put("a bc"), is(x -> x.division(), 3));
        test("a book without words", newCode(), newBook(0, 0, 18, 3, true), put("a b"), is(x -> x.division(), 2));
        test("a book with words", newCode(), newBook(0, 0, 18, 3, true), add(0, "z"), put("a b"), no(x -> x.division(), STATE),
            is(x -> x.wipe(), 3));
        test("only the last book has words", times(2, newCode()), times(3, newBook(0, 0, 18, 3, true)), newBook(1, 0, 18, 3, true),
            add(3, "z"), put("a b"), no(x -> x.division(), STATE));
        test("a book with words, and no division", newCode(), newBook(0, 0, 18, 3, true), add(0, "z"), put("a/b"),
            no(x -> x.division(), ARGUMENT), is(x -> x.wipe(), 3));
    }

    /** A code with a contraction of ab. */
    private static Step codeWith(int number) {
        return all(newCode(), contract(number, "ab", 1, 0, 63, 0));
    }
}
