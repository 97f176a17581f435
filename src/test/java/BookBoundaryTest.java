/** The boundary cases of the promises 18 to 22: books, their words, lines and pages. */
public final class BookBoundaryTest extends Boundaries {
    /** A text of 25 words. */
    private static final String MANY = "a b c d e f g h i j k l m n o p q r s t u v w x y";

    public static void main(String[] args) {
        bookArguments();
        bookLimits();
        addTexts();
        addLimits();
        lineEnds();
        lineBegins();
        dividedWords();
        dividedSigns();
        dividedPages();
        pageEnds();
        bars();
        printPages();
        heads();
        wordArguments();
        wordsTold();
        ofBookArguments();
        booksTold();
        longestBook();
        atArguments();
        end();
    }

    private static Step withWidth(int width, int height) {
        return all(newCode(), newBook(0, 3, width, height, false));
    }

    // ---- promise 18

    private static void bookArguments() {
        promise(18);
        for (int code : new int[] {-1, 2, 3, LEAST, MOST}) {
            test("of the code " + code, times(2, newCode()), no(x -> x.book(code, 0, 18, 3, true), BOUNDS), is(x -> x.book(1, 0, 18, 3, true), 0));
        }
        for (int grade : new int[] {-1, 4, LEAST, MOST}) {
            test("the grade " + grade, newCode(), no(x -> x.book(0, grade, 18, 3, true), ARGUMENT), no(x -> x.ofBook(0, 0), BOUNDS));
        }
        for (int width : new int[] {17, 41, 0, -18, LEAST, MOST}) {
            test("the width " + width, newCode(), no(x -> x.book(0, 0, width, 3, true), ARGUMENT), no(x -> x.ofBook(0, 0), BOUNDS));
        }
        for (int height : new int[] {2, 26, 1, 0, -3, LEAST, MOST}) {
            test("the height " + height, newCode(), no(x -> x.book(0, 0, 18, height, true), ARGUMENT), no(x -> x.ofBook(0, 0), BOUNDS));
        }
        for (int grade : new int[] {0, 3}) {
            test("the grade " + grade, newCode(), contract(0, "ab", 3, 0, 63, 0), is(x -> x.book(0, grade, 18, 3, true), 0), add(0, "ab"),
                is(x -> x.word(0, 0, 0), grade == 0 ? 2 : 1));
        }
        for (int width : new int[] {18, 40}) {
            test("the width " + width, newCode(), is(x -> x.book(0, 0, width, 3, true), 0), add(0, "a"), is(x -> x.at(0, 0, 0, width - 1), 1),
                no(x -> x.at(0, 0, 0, width), BOUNDS));
        }
        for (int height : new int[] {3, 25}) {
            test("the height " + height, newCode(), is(x -> x.book(0, 0, 18, height, true), 0), add(0, "a"), is(x -> x.at(0, 0, height - 1, 0), 0),
                no(x -> x.at(0, 0, height, 0), BOUNDS));
        }
        test("no code goes ahead of all else", no(x -> x.book(0, 4, 17, 2, true), BOUNDS));
    }

    private static void bookLimits() {
        promise(18);
        test("four books", newCode(), is(x -> x.book(0, 0, 18, 3, true), 0), is(x -> x.book(0, 0, 18, 3, true), 1), is(x -> x.book(0, 0, 18, 3, true), 2),
            is(x -> x.book(0, 0, 18, 3, true), 3));
        Step four = all(newCode(), times(4, newBook(0, 0, 18, 3, true)));
        test("a fifth book", four, no(x -> x.book(0, 0, 18, 3, true), STATE), no(x -> x.ofBook(4, 0), BOUNDS), is(x -> x.ofBook(3, 0), 0));
        test("a fifth book of the width 17", four, no(x -> x.book(0, 0, 17, 3, true), ARGUMENT));
        test("a fifth book of no code", four, no(x -> x.book(1, 0, 18, 3, true), BOUNDS));
    }

    // ---- promise 19

    private static void addTexts() {
        promise(19);
        Step begun = all(newCode(), newBook(0, 0, 18, 3, true));
        test("a text of one letter", begun, put("a"), is(x -> x.add(0), 1), is(x -> x.wipe(), 0));
        test("a text of a full tape", begun, put("a ".repeat(29) + "bc"), is(x -> x.add(0), 30), is(x -> x.wipe(), 0), is(x -> x.word(0, 29, 0), 2));
        for (String tape : new String[] {"", "*", "a ", "a/", "a|", " a", "a  b", "a,,", "aB", "abcdefghijk", "1234567", "a+b", "(a)"}) {
            test("the tape '" + tape + "'", begun, put(tape), no(x -> x.add(0), ARGUMENT), is(x -> x.wipe(), tape.length()), is(x -> x.ofBook(0, 0), 0));
        }
        for (int book : new int[] {-1, 1, 2, LEAST, MOST}) {
            test("the book " + book, begun, put("a"), no(x -> x.add(book), BOUNDS), is(x -> x.wipe(), 1));
        }
        test("no book goes ahead of the tape", begun, no(x -> x.add(1), BOUNDS));
        test("the text does not stay on the tape", begun, put("a"), is(x -> x.add(0), 1), no(x -> x.add(0), ARGUMENT), is(x -> x.ofBook(0, 0), 1));
    }

    private static void addLimits() {
        promise(19);
        Step begun = all(newCode(), newBook(0, 0, 40, 25, true));
        Step full = all(begun, add(0, MANY), add(0, MANY), add(0, MANY), add(0, "a b c d e"));
        test("the 80th word", begun, add(0, MANY), add(0, MANY), add(0, MANY), add(0, "a b c d"), put("e"), is(x -> x.add(0), 80), is(x -> x.word(0, 79, 0), 1));
        test("the 81st word", full, put("f"), no(x -> x.add(0), STATE), is(x -> x.wipe(), 1), is(x -> x.ofBook(0, 0), 80), no(x -> x.word(0, 80, 0), BOUNDS));
        test("many words up to 80", begun, add(0, MANY), add(0, MANY), add(0, "a b c d e"), put(MANY), is(x -> x.add(0), 80));
        test("many words up to 81: none of them is added", begun, add(0, MANY), add(0, MANY), add(0, "a b c d e f"), put(MANY), no(x -> x.add(0), STATE),
            is(x -> x.ofBook(0, 0), 56), is(x -> x.wipe(), 49), put("z"), is(x -> x.add(0), 57));
        test("a full book, and no text", full, put("f,,"), no(x -> x.add(0), ARGUMENT), is(x -> x.wipe(), 3));
        test("a full book, and another one", full, newBook(0, 0, 18, 3, true), put("f"), is(x -> x.add(1), 1));
        Step copied = all(begun, add(0, "a"), make(x -> x.emboss(0, 0)));
        test("a book with a copy", copied, put("b"), no(x -> x.add(0), STATE), is(x -> x.ofBook(0, 0), 1), is(x -> x.wipe(), 1));
        test("a book with a copy, and no text", copied, no(x -> x.add(0), ARGUMENT), put("b "), no(x -> x.add(0), ARGUMENT));
        test("a book behind one with a copy", copied, newBook(0, 0, 18, 3, true), put("b"), is(x -> x.add(1), 1));
        test("a book ahead of one with a copy", begun, newBook(0, 0, 18, 3, true), add(1, "a"), make(x -> x.emboss(0, 1)), put("b"), is(x -> x.add(0), 1));
    }

    // ---- promises 20 and 22: lines

    private static void lineEnds() {
        promise(22);
        Step begun = withWidth(18, 5);
        test("room to the last cell", begun, add(0, "aaaaaaa bbbbbbbb"), line(0, 0, 1, "0*2 1*7 0 3*8"), line(0, 0, 2, "0*18"), word(0, 1, "8 0 0 1 10 1 1 0"));
        test("one cell too long", begun, add(0, "aaaaaaa bbbbbbbbb"), line(0, 0, 1, "0*2 1*7 0*9"), line(0, 0, 2, "3*9 0*9"), word(0, 1, "9 0 0 2 0 1 1 0"));
        test("a mark too long", begun, add(0, "aaaaaaa bbbbbbbb,"), line(0, 0, 2, "3*8 2 0*9"), word(0, 1, "9 0 0 2 0 1 1 0"));
        test("a sign too long", begun, add(0, "aaaaaaa Bbbbbbbb"), line(0, 0, 2, "32 3*8 0*9"), word(0, 1, "9 0 0 2 0 1 1 0"));
        test("one cell behind a full line", begun, add(0, "aaaaaaa bbbbbbbb c"), line(0, 0, 2, "9 0*17"), word(0, 2, "1 0 0 2 0 1 1 0"));
        test("one cell with two of room", begun, add(0, "aaaaaaa bbbbbb c"), line(0, 0, 1, "0*2 1*7 0 3*6 0 9"), word(0, 2, "1 0 0 1 17 1 1 0"));
        test("one cell with one of room", begun, add(0, "aaaaaaa bbbbbbb c"), line(0, 0, 1, "0*2 1*7 0 3*7 0"), word(0, 2, "1 0 0 2 0 1 1 0"));
        test("digits are not divided", begun, add(0, "aaaaaaaaaa 123456"), line(0, 0, 1, "0*2 1*10 0*6"), line(0, 0, 2, "60 1 3 9 25 17 11 0*11"));
        Step wide = withWidth(40, 3);
        test("room to the last of forty cells", wide, add(0, "aaaaaaaaaa bbbbbbbbbb cccccccccc ddddd"), line(0, 0, 1, "0*2 1*10 0 3*10 0 9*10 0 25*5"));
        test("one too long for forty cells", wide, add(0, "aaaaaaaaaa bbbbbbbbbb cccccccccc dddddd"), line(0, 0, 1, "0*2 1*10 0 3*10 0 9*10 0*6"),
            line(0, 0, 2, "25*6 0*34"));
    }

    private static void lineBegins() {
        promise(22);
        Step begun = withWidth(18, 5);
        test("the first word", begun, add(0, "a"), line(0, 0, 1, "0*2 1 0*15"), word(0, 0, "1 0 0 1 2 1 1 0"));
        test("a word behind a blank", begun, add(0, "a b"), line(0, 0, 1, "0*2 1 0 3 0*13"), word(0, 1, "1 0 0 1 4 1 1 0"));
        test("a word behind a stroke", begun, add(0, "a/b"), line(0, 0, 2, "0*2 3 0*15"), word(0, 1, "1 0 0 2 2 1 1 0"));
        test("a word behind a bar", begun, add(0, "a|b"), line(0, 0, 2, "36*16 60 3"), line(0, 0, 3, "3 0*17"), word(0, 1, "1 0 0 3 0 1 2 0"));
        test("a first word added later", begun, add(0, "a"), add(0, "b"), line(0, 0, 2, "0*2 3 0*15"), word(0, 1, "1 0 0 2 2 1 1 0"));
        test("a second word added later", begun, add(0, "a"), add(0, "b c"), line(0, 0, 2, "0*2 3 0 9 0*13"));
        test("the longest word, behind two blanks", newCode(), contract(0, "zz", 1, 0, 1, 0), newBook(0, 1, 18, 3, true), add(0, "*AAAAAAAAAA,"),
            line(0, 0, 1, "0*2 40 32*2 48 1*10 2 0"), word(0, 0, "15 1 0 1 2 1 1 0"));
        test("a word behind one that begins a line", begun, add(0, "aaaaaaaaaa bbbbbbbbbb c"), line(0, 0, 2, "3*10 0 9 0*6"));
    }

    /** abcdefg is divided as ab cde fg, and the width is 18. */
    private static Step divided() {
        return all(newCode(), divide("ab cde fg"), newBook(0, 3, 18, 5, true));
    }

    private static void dividedWords() {
        promise(20);
        test("room for all of it", divided(), add(0, "kkkkkkkk abcdefg"), line(0, 0, 1, "0*2 5*8 0 1 3 9 25 17 11 27"), word(0, 1, "7 0 0 1 11 3 1 0"));
        test("room for all but one cell: two parts", divided(), add(0, "kkkkkkkkk abcdefg"), line(0, 0, 1, "0*2 5*9 0 1 3 9 25 17 36"),
            line(0, 0, 2, "11 27 0*16"), word(0, 1, "7 0 0 1 12 2 1 0"));
        test("no room for the hyphen of two parts: one part", divided(), add(0, "kkkkkkkkkk abcdefg"), line(0, 0, 1, "0*2 5*10 0 1 3 36 0*2"),
            line(0, 0, 2, "9 25 17 11 27 0*13"), word(0, 1, "7 0 0 1 13 1 1 0"));
        test("room for one part and its hyphen, to the last cell", divided(), add(0, "kkkkkkkkkk k abcdefg"), line(0, 0, 1, "0*2 5*10 0 5 0 1 3 36"),
            line(0, 0, 2, "9 25 17 11 27 0*13"), word(0, 2, "7 0 0 1 15 1 1 0"));
        test("room for one part, none for its hyphen", divided(), add(0, "kkkkkkkkkk kk abcdefg"), line(0, 0, 1, "0*2 5*10 0 5*2 0*3"),
            line(0, 0, 2, "1 3 9 25 17 11 27 0*11"), word(0, 2, "7 0 0 2 0 3 1 0"));
        test("no room for one part", divided(), add(0, "kkkkkkkkkk kkk abcdefg"), line(0, 0, 1, "0*2 5*10 0 5*3 0*2"), word(0, 2, "7 0 0 2 0 3 1 0"));
        test("no room for a cell", divided(), add(0, "kkkkkkkkkk kkkkk abcdefg"), line(0, 0, 1, "0*2 5*10 0 5*5"), word(0, 2, "7 0 0 2 0 3 1 0"));
        test("a word that is not divided", divided(), add(0, "kkkkkkkkk abcdefh"), line(0, 0, 1, "0*2 5*9 0*7"), word(0, 1, "7 0 0 2 0 1 1 0"));
        test("the first word of a book has all its parts", divided(), add(0, "abcdefg"), word(0, 0, "7 0 0 1 2 3 1 0"));
        test("behind a stroke and a bar it has all its parts", divided(), add(0, "a/abcdefg|abcdefg"), word(0, 1, "7 0 0 2 2 3 1 0"), word(0, 2, "7 0 0 4 0 3 2 0"));
        test("a word behind the parts in the next line", divided(), add(0, "kkkkkkkkk abcdefg k"), line(0, 0, 2, "11 27 0 5 0*14"), word(0, 2, "1 0 0 2 3 1 1 0"));
        test("a word behind them to the last cell", divided(), add(0, "kkkkkkkkk abcdefg kkkkkkkkkk kkkk"), line(0, 0, 2, "11 27 0 5*10 0 5*4"));
        test("two in a row", divided(), add(0, "kkkkkkkkk abcdefg kkkkkkkkkk abcdefg"), line(0, 0, 2, "11 27 0 5*10 0 1 3 36 0"),
            line(0, 0, 3, "9 25 17 11 27 0*13"), word(0, 3, "7 0 0 2 14 1 1 0"));
        test("four parts and room for two of them", newCode(), divide("a b c d"), newBook(0, 0, 18, 3, true), add(0, "kkkkkkkkkk k abcd"),
            line(0, 0, 1, "0*2 5*10 0 5 0 1 3 36"), word(0, 2, "4 0 0 1 15 2 1 0"));
        test("four parts and room for all of them", newCode(), divide("a b c d"), newBook(0, 0, 18, 3, true), add(0, "kkkkkkkkkk abcd, kkkkkkkkk ABCD,"),
            line(0, 0, 1, "0*2 5*10 0 1 3 9 25 2"), line(0, 0, 2, "5*9 0 32*2 1 3 9 25 2 0"));
        test("four parts and room for three of them", newCode(), divide("a b c d"), newBook(0, 0, 18, 3, true), add(0, "kkkkkkkk kk abcd,"),
            line(0, 0, 1, "0*2 5*8 0 5*2 0 1 3 9 36"), line(0, 0, 2, "25 2 0*16"), word(0, 2, "5 0 0 1 14 3 1 0"));
        test("parts that have room, and a hyphen that has none", newCode(), divide("a b c d"), newBook(0, 0, 18, 3, true),
            add(0, "kkkkkkkkkk a abcd k/kkkkkkkkkk kk"), line(0, 0, 1, "0*2 5*10 0 1 0 1 3 36"), line(0, 0, 2, "9 25 0 5 0*14"));
    }

    private static void dividedSigns() {
        promise(20);
        test("all parts have room, the mark has none: all but one", divided(), add(0, "kkkkkkkk abcdefg,"), line(0, 0, 1, "0*2 5*8 0 1 3 9 25 17 36 0"),
            line(0, 0, 2, "11 27 2 0*15"), word(0, 1, "8 0 0 1 11 2 1 0"));
        test("signs are of the first part: it has room", divided(), add(0, "kkkkkkkkkk Abcdefg"), line(0, 0, 1, "0*2 5*10 0 32 1 3 36 0"),
            line(0, 0, 2, "9 25 17 11 27 0*13"), word(0, 1, "8 0 0 1 13 1 1 0"));
        test("two signs: it has room to the last cell", divided(), add(0, "kkkkkkkkkk ABCDEFG"), line(0, 0, 1, "0*2 5*10 0 32*2 1 3 36"), word(0, 1, "9 0 0 1 13 1 1 0"));
        test("star and two signs: it has none", divided(), add(0, "kkkkkkkkkk *ABCDEFG"), line(0, 0, 1, "0*2 5*10 0*6"), line(0, 0, 2, "40 32*2 1 3 9 25 17 11 27 0*8"),
            word(0, 1, "10 0 0 2 0 3 1 0"));
        Step made = all(newCode(), contract(0, "zz", 1, 0, 5, 0), divide("k ab"), newBook(0, 1, 18, 4, true));
        test("the sign for letters is of the first part", made, add(0, "aaaaaaaaaa a kab"), line(0, 0, 1, "0*2 1*10 0 1 0 48 5 36"), line(0, 0, 2, "1 3 0*16"),
            word(0, 2, "4 1 0 1 15 1 1 0"));
        test("the sign for letters has no room", made, add(0, "aaaaaaaaaa aa kab"), line(0, 0, 1, "0*2 1*10 0 1*2 0*3"), line(0, 0, 2, "48 5 1 3 0*14"),
            word(0, 2, "4 1 0 2 0 2 1 0"));
        Step brief = all(newCode(), contract(0, "abc", 1, 0, 63, 0), divide("abc de"), newBook(0, 1, 18, 4, true));
        test("a part that is one cell", brief, add(0, "kkkkkkkkkk kk abcde"), line(0, 0, 1, "0*2 5*10 0 5*2 0 63 36"), line(0, 0, 2, "25 17 0*16"), word(0, 2, "3 0 0 1 16 1 1 1"));
        test("all of it in fewer cells", brief, add(0, "kkkkkkkkkk k abcde"), line(0, 0, 1, "0*2 5*10 0 5 0 63 25 17"), word(0, 2, "3 0 0 1 15 2 1 1"));
    }

    private static void dividedPages() {
        promise(20);
        Step made = all(newCode(), divide("ab cde fg"), newBook(0, 3, 18, 3, true));
        test("the last line of a page: the others begin the next page", made, add(0, "k/kkkkkkkkkk abcdefg, k"), line(0, 0, 2, "0*2 5*10 0 1 3 36 0*2"),
            line(0, 1, 0, "60 1 0*14 60 3"), line(0, 1, 1, "9 25 17 11 27 2 0 5 0*10"), word(0, 2, "8 0 0 2 13 1 1 0"), word(0, 3, "1 0 1 1 7 1 1 0"));
        test("the last line of a page: not one part has room", made, add(0, "k/kkkkkkkkkk kk abcdefg"), line(0, 0, 2, "0*2 5*10 0 5*2 0*3"),
            line(0, 1, 1, "1 3 9 25 17 11 27 0*11"), word(0, 3, "7 0 1 1 0 3 1 0"));
        test("the line ahead of the last one", made, add(0, "kkkkkkkkkk abcdefg, k"), line(0, 0, 2, "9 25 17 11 27 2 0 5 0*10"), is(x -> x.ofBook(0, 1), 1));
    }

    // ---- promises 20 to 22: pages

    private static void pageEnds() {
        promise(21);
        Step begun = withWidth(18, 3);
        test("one line", begun, add(0, "a"), is(x -> x.ofBook(0, 1), 1), is(x -> x.ofBook(0, 2), 2));
        test("a full page: no next one yet", begun, add(0, "a/b"), is(x -> x.ofBook(0, 1), 1), is(x -> x.ofBook(0, 2), 3), no(x -> x.at(0, 1, 0, 0), BOUNDS));
        test("one line more than a full page", begun, add(0, "a/b/c"), is(x -> x.ofBook(0, 1), 2), is(x -> x.ofBook(0, 2), 5), line(0, 1, 1, "0*2 9 0*15"),
            word(0, 2, "1 0 1 1 2 1 1 0"));
        test("a word that has no room on a full page", begun, add(0, "a/bbbbbbbbbb cccccc"), line(0, 1, 1, "9*6 0*12"), is(x -> x.ofBook(0, 2), 5));
        test("a word that has room on a full page", begun, add(0, "a/bbbbbbbbbb ccccc"), line(0, 0, 2, "0*2 3*10 0 9*5"), is(x -> x.ofBook(0, 1), 1));
        Step high = withWidth(18, 25);
        test("twenty-four lines of text: one page", high, add(0, "a" + "/b".repeat(23)), is(x -> x.ofBook(0, 1), 1), is(x -> x.ofBook(0, 2), 25),
            word(0, 23, "1 0 0 24 2 1 1 0"));
        test("twenty-five lines of text: two pages", high, add(0, "a" + "/b".repeat(24)), is(x -> x.ofBook(0, 1), 2), is(x -> x.ofBook(0, 2), 27),
            word(0, 24, "1 0 1 1 2 1 1 0"));
        test("added behind a full page", begun, add(0, "a/b"), add(0, "c"), is(x -> x.ofBook(0, 1), 2), word(0, 2, "1 0 1 1 2 1 1 0"));
    }

    private static void bars() {
        promise(22);
        Step begun = withWidth(18, 5);
        test("a bar in the second line", begun, add(0, "a|b"), line(0, 0, 2, "36*16 60 3"), line(0, 0, 3, "3 0*17"), is(x -> x.ofBook(0, 2), 4));
        test("a bar in the last line but one", begun, add(0, "a/b|c"), line(0, 0, 3, "36*16 60 3"), line(0, 0, 4, "9 0*17"), is(x -> x.ofBook(0, 2), 5),
            is(x -> x.ofBook(0, 1), 1));
        test("a bar that would be in the last line", begun, add(0, "a/b/c|d"), line(0, 0, 4, "0*18"), line(0, 1, 0, "60 3 0*14 60 3"), line(0, 1, 1, "36*16 60 3"),
            line(0, 1, 2, "25 0*17"), is(x -> x.ofBook(0, 2), 8), word(0, 3, "1 0 1 2 0 1 2 0"));
        test("a bar behind a full page", begun, add(0, "a/b/c/d|e"), line(0, 0, 4, "0*2 25 0*15"), line(0, 1, 0, "60 3 0*14 60 3"), line(0, 1, 1, "36*16 60 3"),
            line(0, 1, 2, "17 0*17"), is(x -> x.ofBook(0, 2), 8));
        Step low = withWidth(18, 3);
        test("the first line of a low page is full: the bar goes on to the next one", low, add(0, "a|b"), line(0, 0, 2, "0*18"), line(0, 1, 1, "36*16 60 3"),
            line(0, 1, 2, "3 0*17"), is(x -> x.ofBook(0, 1), 2), is(x -> x.ofBook(0, 2), 6));
        test("a low page is full: the bar begins the next one", low, add(0, "a/b|c"), line(0, 1, 1, "36*16 60 3"), line(0, 1, 2, "9 0*17"), is(x -> x.ofBook(0, 2), 6));
        test("two bars on low pages", low, add(0, "a|b|c"), line(0, 2, 1, "36*16 60 9"), line(0, 2, 2, "9 0*17"), is(x -> x.ofBook(0, 1), 3));
        test("a bar behind a word in two lines", all(newCode(), divide("ab cde fg"), newBook(0, 0, 18, 4, true)), add(0, "kkkkkkkkkk abcdefg|k"), line(0, 0, 3, "0*18"),
            line(0, 1, 1, "36*16 60 3"), line(0, 1, 2, "5 0*17"));
        test("a bar in the widest line", withWidth(40, 4), add(0, "a|b"), line(0, 0, 2, "36*38 60 3"), line(0, 0, 3, "3 0*39"));
        test("the word behind a bar, and one behind it", begun, add(0, "a|bbbbbbbbbb ccccccc"), line(0, 0, 3, "3*10 0 9*7"));
        test("the word behind a bar, and one that has no room behind it", begun, add(0, "a|bbbbbbbbbb cccccccc"), line(0, 0, 3, "3*10 0*8"), line(0, 0, 4, "9*8 0*10"));
    }

    private static void printPages() {
        promise(20);
        Step begun = withWidth(18, 25);
        test("ahead of each bar", begun, add(0, "a b/c"), is(x -> x.word(0, 0, 6), 1), is(x -> x.word(0, 2, 6), 1), is(x -> x.ofBook(0, 3), 1));
        test("behind a bar", begun, add(0, "a|b"), is(x -> x.word(0, 0, 6), 1), is(x -> x.word(0, 1, 6), 2), is(x -> x.ofBook(0, 3), 2));
        test("behind all that follows a bar", begun, add(0, "a|b c/d"), is(x -> x.word(0, 3, 6), 2));
        test("in a text added later", begun, add(0, "a|b"), add(0, "c"), is(x -> x.word(0, 2, 6), 2), is(x -> x.ofBook(0, 3), 2));
        test("each bar is one more", begun, add(0, "a|b|c"), is(x -> x.word(0, 2, 6), 3));
        test("the ninth and the tenth", begun, add(0, "a|b|c|d|e|f|g|h|i|j"), line(0, 0, 16, "36*16 60 10"), line(0, 0, 17, "10 0*17"),
            line(0, 0, 18, "36*15 60 1 26"), line(0, 0, 19, "26 0*17"), is(x -> x.ofBook(0, 3), 10));
        test("the 78th: eighty words in three texts have no more bars", withWidth(18, 3), add(0, "a" + "|b".repeat(29)), add(0, "a" + "|b".repeat(29)), add(0, "a" + "|b".repeat(19)),
            is(x -> x.ofBook(0, 0), 80), is(x -> x.ofBook(0, 3), 78), is(x -> x.word(0, 79, 6), 78));
    }

    private static void heads() {
        promise(22);
        test("the first page of the narrowest book", withWidth(18, 3), add(0, "a"), line(0, 0, 0, "60 1 0*14 60 1"));
        test("the first page of the widest book", withWidth(40, 3), add(0, "a"), line(0, 0, 0, "60 1 0*36 60 1"));
        test("the ninth and the tenth page", withWidth(18, 3), add(0, "a" + "/b".repeat(19)), line(0, 8, 0, "60 1 0*14 60 10"), line(0, 9, 0, "60 1 0*13 60 1 26"));
        test("the ninth and the tenth print page", withWidth(18, 3), add(0, "a" + "|b".repeat(9)), line(0, 8, 0, "60 10 0*14 60 10"),
            line(0, 9, 0, "60 1 26 0*12 60 1 26"));
        test("a bar in the second line is not told in the head", withWidth(18, 4), add(0, "a|b"), line(0, 0, 0, "60 1 0*14 60 1"));
        test("a bar in the first line is told in the head", withWidth(18, 3), add(0, "a/b|c"), line(0, 1, 0, "60 3 0*14 60 3"));
        test("a page whose first line is behind a bar of the page ahead", withWidth(18, 4), add(0, "a|b/c"), line(0, 1, 0, "60 3 0*14 60 3"));
        test("a page with an empty last line has the print page of its first one", withWidth(18, 4), add(0, "a/b|c"), line(0, 0, 0, "60 1 0*14 60 1"),
            line(0, 0, 3, "0*18"), line(0, 1, 0, "60 3 0*14 60 3"));
        test("a line that is not there yet does not change a head", withWidth(18, 3), add(0, "a/b"), add(0, "c"), line(0, 0, 0, "60 1 0*14 60 1"),
            line(0, 1, 0, "60 1 0*14 60 3"));
    }

    // ---- promise 20

    private static void wordArguments() {
        promise(20);
        Step made = all(newCode(), times(2, newBook(0, 0, 18, 3, true)), add(0, "a bc"));
        for (int book : new int[] {-1, 2, LEAST, MOST}) {
            test("the book " + book, made, no(x -> x.word(book, 0, 0), BOUNDS));
        }
        for (int word : new int[] {-1, 2, 80, LEAST, MOST}) {
            test("the word " + word + " of two", made, no(x -> x.word(0, word, 0), BOUNDS));
        }
        test("the first word of a book without words", made, no(x -> x.word(1, 0, 0), BOUNDS));
        test("the first and the last word", made, is(x -> x.word(0, 0, 0), 1), is(x -> x.word(0, 1, 0), 2));
        for (int what : new int[] {-1, 8, LEAST, MOST}) {
            test("what is " + what, made, no(x -> x.word(0, 0, what), ARGUMENT));
            test("what is " + what + " of a word that is not there", made, no(x -> x.word(0, 2, what), BOUNDS));
            test("what is " + what + " of a book that is not there", made, no(x -> x.word(2, 0, what), BOUNDS));
        }
    }

    private static void wordsTold() {
        promise(20);
        Step made = all(newCode(), contract(0, "ab", 1, 0, 63, 0), times(22, contract(0, "yy", 3, 0, 55, 0)), contract(0, "but", 1, Touchpress.WHOLE, 3, 0),
            newBook(0, 1, 40, 25, true));
        test("the first contraction", made, add(0, "ab"), is(x -> x.word(0, 0, 7), 1));
        test("the 24th contraction", made, add(0, "but"), is(x -> x.word(0, 0, 7), 1 << 23));
        test("a contraction twice is one in the set", made, add(0, "abab"), is(x -> x.word(0, 0, 7), 1), is(x -> x.word(0, 0, 0), 2));
        test("a marked word has none, and is 1", made, add(0, "b"), is(x -> x.word(0, 0, 7), 0), is(x -> x.word(0, 0, 1), 1));
        test("a marked word has none, though a contraction was found for it", newCode(), contract(0, "ab", 1, 0, 63, 0), contract(0, "zz", 1, 0, 9, 0),
            newBook(0, 1, 18, 3, true), add(0, "ab abc"), word(0, 0, "1 0 0 1 2 1 1 1"), word(0, 1, "4 1 0 1 4 1 1 0"));
        test("a word of letters alone has none, and is 0", made, add(0, "ba"), is(x -> x.word(0, 0, 7), 0), is(x -> x.word(0, 0, 1), 0));
        test("digits have none, and are 0", made, add(0, "2"), is(x -> x.word(0, 0, 7), 0), is(x -> x.word(0, 0, 1), 0), is(x -> x.word(0, 0, 5), 1));
        test("a contraction above the grade", made, add(0, "yy"), is(x -> x.word(0, 0, 7), 0), is(x -> x.word(0, 0, 0), 2));
        test("the hyphen is no cell of the word", divided(), add(0, "kkkkkkkkk *abcdefg."), is(x -> x.word(0, 1, 0), 9), is(x -> x.word(0, 1, 5), 1));
        test("the place is that ahead of its signs", made, add(0, "a *AB,"), is(x -> x.word(0, 1, 4), 4), line(0, 0, 1, "0*2 1 0 40 32*2 63 2 0*31"));
    }

    // ---- promise 21

    private static void ofBookArguments() {
        promise(21);
        Step made = all(newCode(), times(2, newBook(0, 0, 18, 3, true)), add(0, "a bc"));
        for (int book : new int[] {-1, 2, 4, LEAST, MOST}) {
            test("the book " + book, made, no(x -> x.ofBook(book, 0), BOUNDS));
        }
        for (int what : new int[] {-1, 6, LEAST, MOST}) {
            test("what is " + what, made, no(x -> x.ofBook(0, what), ARGUMENT));
            test("what is " + what + " of a book that is not there", made, no(x -> x.ofBook(2, what), BOUNDS));
        }
    }

    /** Four lines of a page are its head, a bar, a word behind it, and one left empty. */
    private static void longestBook() {
        promise(21);
        Step longest = all(withWidth(40, 4), add(0, "a" + "|b".repeat(29)), add(0, "a" + "|b".repeat(29)), add(0, "a" + "|b".repeat(19)));
        test("the longest book has all its pages", longest, is(x -> x.ofBook(0, 0), 80), is(x -> x.ofBook(0, 1), 77), is(x -> x.word(0, 79, 2), 76));
        // The 77th bar is told on the 77th page, that of the print page 78.
        test("the last page of the longest book has its cells", longest, line(0, 76, 0, "60 27 19 0*34 60 27*2"), line(0, 76, 1, "36*37 60 27 19"),
            line(0, 76, 2, "3 0*39"), line(0, 76, 3, "0*40"));
        test("the copy of the longest book has its cells", longest, make(x -> x.renew(0, 0, 99999)), make(x -> x.renew(0, 2, 99999)),
            make(x -> x.renew(0, 5, 99999)), make(x -> x.emboss(0, 0)), is(x -> x.felt(0, 76, 2, 0), 3), is(x -> x.felt(0, 76, 0, 39), 27), is(x -> x.ofCopy(0, 1), 0),
            is(x -> x.ofCopy(0, 2), 0));
    }

    private static void booksTold() {
        promise(21);
        Step begun = withWidth(18, 3);
        test("a book without words", begun, ofBook(0, "0 0 0 1 0 0"));
        // The head has twice 60 (four dots) and 1 (one dot).
        test("a book of one word", begun, add(0, "a"), ofBook(0, "1 1 2 1 11 0"));
        test("the dots of a full page", begun, add(0, "a/b"), ofBook(0, "2 1 3 1 13 0"));
        test("the dots of a second head", begun, add(0, "a/b/c"), ofBook(0, "3 2 5 1 " + (13 + 11 + 2) + " 0"));
        test("the dots of a bar: sixteen hyphens of two, its number", begun, add(0, "a|b"), ofBook(0, "2 2 6 2 " + (11 + 12 + 32 + 6 + 2) + " 0"));
        test("the dots of a hyphen", divided(), add(0, "kkkkkkkkk abcdefg"), ofBook(0, "2 1 3 1 " + (10 + 18 + 1 + 2 + 2 + 3 + 2 + 2 + 3 + 4) + " 0"));
        test("no copy, one, two", begun, add(0, "a"), is(x -> x.ofBook(0, 5), 0), make(x -> x.emboss(0, 0)), is(x -> x.ofBook(0, 5), 1), make(x -> x.emboss(1, 0)),
            is(x -> x.ofBook(0, 5), 2));
        test("copies of another book", begun, add(0, "a"), newBook(0, 0, 18, 3, true), make(x -> x.emboss(0, 0)), is(x -> x.ofBook(1, 5), 0));
        test("words that were refused are not told", begun, add(0, "a"), put("b c,,"), no(x -> x.add(0), ARGUMENT), ofBook(0, "1 1 2 1 11 0"));
    }

    // ---- promise 22

    private static void atArguments() {
        promise(22);
        Step made = all(newCode(), times(2, newBook(0, 0, 18, 4, true)), add(0, "a/b/c/d"));
        for (int book : new int[] {-1, 2, LEAST, MOST}) {
            test("the book " + book, made, no(x -> x.at(book, 0, 0, 0), BOUNDS));
        }
        for (int page : new int[] {-1, 2, 3, LEAST, MOST}) {
            test("the page " + page + " of two", made, no(x -> x.at(0, page, 0, 0), BOUNDS));
        }
        for (int line : new int[] {-1, 4, 25, LEAST, MOST}) {
            test("the line " + line + " of four", made, no(x -> x.at(0, 0, line, 0), BOUNDS));
        }
        for (int place : new int[] {-1, 18, 40, LEAST, MOST}) {
            test("the place " + place + " of eighteen", made, no(x -> x.at(0, 0, 0, place), BOUNDS));
        }
        test("the first page of a book without words", made, no(x -> x.at(1, 0, 0, 0), BOUNDS));
        test("the first cell", made, is(x -> x.at(0, 0, 0, 0), 60));
        test("the last cell of the head", made, is(x -> x.at(0, 0, 0, 17), 1));
        test("the last line", made, is(x -> x.at(0, 0, 3, 2), 9));
        test("the last page", made, is(x -> x.at(0, 1, 1, 2), 25));
        test("the first line that the last page has not", made, is(x -> x.at(0, 1, 2, 2), 0));
        test("the last cell of the last line that the last page has not", made, is(x -> x.at(0, 1, 3, 17), 0));
    }
}
