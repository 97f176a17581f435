/** The boundary cases of the promises 23 to 27: embossers, their pins, copies, what is felt and read, sheets. */
public final class CopyBoundaryTest extends Boundaries {
    private static final String FIFTY = "aaaaaaaaaa aaaaaaaaaa aaaaaaaaaa aaaaaaaaaa aaaaaaaaaa";

    public static void main(String[] args) {
        renewArguments();
        renewed();
        embossArguments();
        embossLimits();
        wornPins();
        feltArguments();
        feltCells();
        ofCopyArguments();
        misreadSigns();
        misreadCells();
        misreadLines();
        hurtPages();
        sheets();
        end();
    }

    private static Step withBook(String text) {
        return all(newCode(), newBook(0, 3, 18, 3, true), add(0, text));
    }

    private static Step renew(int embosser, int pin, int dots) {
        return make(x -> x.renew(embosser, pin, dots));
    }

    private static Step emboss(int embosser, int book) {
        return make(x -> x.emboss(embosser, book));
    }

    // ---- promise 23

    private static void renewArguments() {
        promise(23);
        for (int embosser : new int[] {-1, 3, LEAST, MOST}) {
            test("the embosser " + embosser, no(x -> x.renew(embosser, 0, 1), BOUNDS));
            test("the embosser " + embosser + ", and no dots", no(x -> x.renew(embosser, 0, 0), BOUNDS));
        }
        for (int pin : new int[] {-1, 6, LEAST, MOST}) {
            test("the pin " + pin, no(x -> x.renew(0, pin, 1), BOUNDS));
            test("the pin " + pin + ", and too many dots", no(x -> x.renew(0, pin, 100001), BOUNDS));
        }
        for (int dots : new int[] {0, -1, 100001, LEAST, MOST}) {
            test("the dots " + dots, no(x -> x.renew(0, 0, dots), ARGUMENT), is(x -> x.renew(0, 0, 5), 1000));
        }
        for (int dots : new int[] {1, 100000}) {
            test("the dots " + dots, is(x -> x.renew(0, 0, dots), 1000), is(x -> x.renew(0, 0, 5), dots));
        }
        for (int i = 0; i < 18; i++) {
            int embosser = i / 6;
            int pin = i % 6;
            test("at first, the pin " + pin + " of the embosser " + embosser, is(x -> x.renew(embosser, pin, 7), 1000), is(x -> x.renew(embosser, pin, 7), 7),
                is(x -> x.renew((embosser + 1) % 3, pin, 7), 1000), is(x -> x.renew(embosser, (pin + 1) % 6, 7), 1000));
        }
    }

    private static void renewed() {
        promise(23);
        // A book of the word a has three dots 1, and two of each of the dots 3 to 6.
        test("what an old pin could raise still", withBook("a"), emboss(0, 0), is(x -> x.renew(0, 0, 9), 997), is(x -> x.renew(0, 1, 9), 1000),
            is(x -> x.renew(0, 2, 9), 998), is(x -> x.renew(0, 5, 9), 998));
        test("a pin that raised all its dots", withBook("a"), renew(0, 0, 3), emboss(0, 0), is(x -> x.renew(0, 0, 9), 0), is(x -> x.ofCopy(0, 1), 0));
        test("a pin that could raise no more", withBook("a"), renew(0, 0, 2), emboss(0, 0), is(x -> x.renew(0, 0, 9), 0), is(x -> x.ofCopy(0, 1), 1));
        test("a pin with one dot left", withBook("a"), renew(0, 0, 4), emboss(0, 0), is(x -> x.renew(0, 0, 9), 1));
        test("a new pin is as it was told, whatever the old one could", withBook("a"), renew(0, 0, 100000), emboss(0, 0), is(x -> x.renew(0, 0, 1), 99997),
            emboss(0, 0), is(x -> x.ofCopy(1, 1), 2), is(x -> x.renew(0, 0, 1), 0));
        test("another embosser is not worn", withBook("a"), emboss(0, 0), is(x -> x.renew(1, 0, 9), 1000), is(x -> x.renew(2, 2, 9), 1000));
    }

    // ---- promise 24

    private static void embossArguments() {
        promise(24);
        for (int embosser : new int[] {-1, 3, LEAST, MOST}) {
            test("the embosser " + embosser, withBook("a"), no(x -> x.emboss(embosser, 0), BOUNDS), is(x -> x.ofBook(0, 5), 0));
        }
        for (int book : new int[] {-1, 1, 4, LEAST, MOST}) {
            test("the book " + book, withBook("a"), no(x -> x.emboss(0, book), BOUNDS), is(x -> x.sheets(), 0));
        }
        for (int embosser : new int[] {0, 1, 2}) {
            test("the embosser " + embosser, withBook("a"), is(x -> x.emboss(embosser, 0), 0), is(x -> x.renew(embosser, 0, 1), 997));
        }
        test("a book without words", newCode(), newBook(0, 0, 18, 3, true), no(x -> x.emboss(0, 0), STATE), no(x -> x.ofCopy(0, 0), BOUNDS));
        test("a book without words, and no embosser", newCode(), newBook(0, 0, 18, 3, true), no(x -> x.emboss(3, 0), BOUNDS));
        test("a book of one word", withBook("a"), is(x -> x.emboss(0, 0), 0), ofCopy(0, "0 0 0 0 -1 -1 0"));
    }

    private static void embossLimits() {
        promise(24);
        Step most = all(withBook("a"), newBook(0, 0, 18, 3, false), newBook(0, 0, 18, 3, false), add(2, "b"), times(19, emboss(0, 0)));
        test("the 20th copy", most, is(x -> x.emboss(1, 2), 19), is(x -> x.ofCopy(19, 0), 2), is(x -> x.ofBook(0, 5), 19), is(x -> x.ofBook(2, 5), 1));
        test("the 21st copy", most, emboss(1, 2), no(x -> x.emboss(1, 2), STATE), no(x -> x.ofCopy(20, 0), BOUNDS), is(x -> x.ofBook(2, 5), 1),
            is(x -> x.sheets(), 20));
        test("the 21st copy wears no pins", most, emboss(1, 2), no(x -> x.emboss(2, 2), STATE), is(x -> x.renew(2, 0, 1), 1000));
        test("the 21st copy, of a book without words", most, emboss(1, 2), no(x -> x.emboss(1, 1), STATE));
        test("the 21st copy, of no book", most, emboss(1, 2), no(x -> x.emboss(1, 3), BOUNDS));
        test("the 21st copy, of no embosser", most, emboss(1, 2), no(x -> x.emboss(-1, 2), BOUNDS));
    }

    private static void wornPins() {
        promise(24);
        // Ninety-eight letters a, and twice 1 in the head: a hundred dots 1 in a copy.
        Step hundred = all(newCode(), newBook(0, 0, 40, 25, true), add(0, FIFTY), add(0, FIFTY.substring(2)));
        test("at first a pin raises a thousand dots", hundred, times(10, emboss(0, 0)), is(x -> x.ofCopy(9, 1), 0), is(x -> x.ofCopy(9, 2), 0),
            is(x -> x.renew(0, 0, 1), 0));
        test("and no more", hundred, times(11, emboss(0, 0)), is(x -> x.ofCopy(9, 1), 0), is(x -> x.ofCopy(10, 1), 100), is(x -> x.ofCopy(10, 2), 10),
            is(x -> x.felt(10, 0, 0, 1), 0), is(x -> x.felt(10, 0, 1, 2), 0));
        test("until it is renewed", hundred, times(11, emboss(0, 0)), renew(0, 0, 100), emboss(0, 0), is(x -> x.ofCopy(11, 1), 0), is(x -> x.ofCopy(10, 1), 100));
        test("the last of its dots", all(newCode(), newBook(0, 0, 40, 25, true), add(0, FIFTY), add(0, FIFTY.substring(1))), times(10, emboss(0, 0)),
            is(x -> x.ofCopy(8, 1), 0), is(x -> x.ofCopy(9, 1), 10), is(x -> x.ofCopy(9, 2), 1));
        test("one dot: that of the print page", withBook("a"), renew(0, 0, 1), emboss(0, 0), is(x -> x.felt(0, 0, 0, 1), 1), is(x -> x.felt(0, 0, 0, 17), 0),
            is(x -> x.felt(0, 0, 1, 2), 0), ofCopy(0, "0 2 1 0 -1 -1 0"));
        test("two dots: those of the head", withBook("a"), renew(0, 0, 2), emboss(0, 0), is(x -> x.felt(0, 0, 0, 17), 1), is(x -> x.felt(0, 0, 1, 2), 0));
        test("three dots: all of it", withBook("a"), renew(0, 0, 3), emboss(0, 0), is(x -> x.felt(0, 0, 1, 2), 1), ofCopy(0, "0 0 0 0 -1 -1 0"));
        test("line by line: the first of two lines", withBook("a/a"), renew(0, 0, 3), emboss(0, 0), is(x -> x.felt(0, 0, 1, 2), 1), is(x -> x.felt(0, 0, 2, 2), 0));
        test("page by page: the last cell of the first page", withBook("a/a/a"), renew(0, 0, 4), emboss(0, 0), is(x -> x.felt(0, 0, 2, 2), 1),
            is(x -> x.felt(0, 1, 0, 1), 0), is(x -> x.felt(0, 1, 1, 2), 0), is(x -> x.ofCopy(0, 1), 3));
        test("a dot of each pin of a cell by itself", withBook("a"), renew(0, 3, 1), emboss(0, 0), is(x -> x.felt(0, 0, 0, 0), 60), is(x -> x.felt(0, 0, 0, 16), 52));
        test("the next copy goes on with what is left", withBook("a"), renew(0, 0, 4), times(2, emboss(0, 0)), is(x -> x.ofCopy(0, 1), 0), is(x -> x.ofCopy(1, 1), 2),
            is(x -> x.felt(1, 0, 0, 1), 1));
    }

    // ---- promise 25

    private static void feltArguments() {
        promise(25);
        Step made = all(newCode(), newBook(0, 0, 18, 4, true), add(0, "a/b/c/d"), emboss(0, 0));
        for (int copy : new int[] {-1, 1, 20, LEAST, MOST}) {
            test("the copy " + copy, made, no(x -> x.felt(copy, 0, 0, 0), BOUNDS));
        }
        for (int page : new int[] {-1, 2, LEAST, MOST}) {
            test("the page " + page + " of two", made, no(x -> x.felt(0, page, 0, 0), BOUNDS));
        }
        for (int line : new int[] {-1, 4, LEAST, MOST}) {
            test("the line " + line + " of four", made, no(x -> x.felt(0, 0, line, 0), BOUNDS));
        }
        for (int place : new int[] {-1, 18, LEAST, MOST}) {
            test("the place " + place + " of eighteen", made, no(x -> x.felt(0, 0, 0, place), BOUNDS));
        }
        test("the first cell", made, is(x -> x.felt(0, 0, 0, 0), 60));
        test("the last cell of the head", made, is(x -> x.felt(0, 0, 0, 17), 1));
        test("the last line", made, is(x -> x.felt(0, 0, 3, 2), 9));
        test("the last page", made, is(x -> x.felt(0, 1, 1, 2), 25));
        test("a line that the last page has not", made, is(x -> x.felt(0, 1, 2, 2), 0));
        test("the last cell of the last line that the last page has not", made, is(x -> x.felt(0, 1, 3, 17), 0));
    }

    private static void feltCells() {
        promise(25);
        test("a cell that lost all its dots", withBook("a"), renew(0, 0, 2), emboss(0, 0), is(x -> x.felt(0, 0, 1, 2), 0), is(x -> x.at(0, 0, 1, 2), 1));
        test("a cell that lost one of its dots", withBook("b"), renew(0, 0, 2), emboss(0, 0), is(x -> x.felt(0, 0, 1, 2), 2), is(x -> x.at(0, 0, 1, 2), 3));
        test("a blank cell stays blank", withBook("a"), emboss(0, 0), is(x -> x.felt(0, 0, 1, 0), 0), is(x -> x.felt(0, 0, 2, 17), 0));
        test("all six dots of a cell", newCode(), contract(0, "ab", 1, 0, 63, 0), newBook(0, 1, 18, 3, true), add(0, "ab"), emboss(0, 0), is(x -> x.felt(0, 0, 1, 2), 63));
        test("another copy is felt as it was embossed", withBook("a"), renew(0, 0, 2), times(1, emboss(0, 0)), emboss(1, 0), is(x -> x.felt(0, 0, 1, 2), 0),
            is(x -> x.felt(1, 0, 1, 2), 1));
    }

    // ---- promise 26

    private static void ofCopyArguments() {
        promise(26);
        Step made = all(withBook("a"), times(2, emboss(0, 0)));
        for (int copy : new int[] {-1, 2, 20, LEAST, MOST}) {
            test("the copy " + copy + " of two", made, no(x -> x.ofCopy(copy, 0), BOUNDS));
        }
        for (int what : new int[] {-1, 7, LEAST, MOST}) {
            test("what is " + what, made, no(x -> x.ofCopy(0, what), ARGUMENT));
            test("what is " + what + " of a copy that is not there", made, no(x -> x.ofCopy(2, what), BOUNDS));
        }
        test("a new copy", made, ofCopy(1, "0 0 0 0 -1 -1 0"));
        test("the last of four books", newCode(), times(4, newBook(0, 0, 18, 3, true)), add(3, "a"), emboss(0, 3), is(x -> x.ofCopy(0, 0), 3));
    }

    /** A copy of a text of a book in the grade 3, one pin of whose embosser raises so many dots. */
    private static void misread(String name, String text, int pin, int dots, int missing, int words) {
        test(name, withBook(text), renew(0, pin, dots), emboss(0, 0), ofCopy(0, "0 " + missing + " " + words + " 0 -1 -1 0"));
    }

    private static void misreadSigns() {
        promise(26);
        // The head has two dots 1, and two of each of the dots 3 to 6.
        misread("a dot of the head is no matter to the words", "a", 2, 1, 1, 0);
        misread("a word that lost all its dots", "a", 0, 2, 1, 1);
        misread("one word of two", "a a", 0, 3, 1, 1);
        misread("a star that becomes a sign for great letters", "*a", 3, 2, 1, 1);
        misread("a star that becomes no sign", "*a", 5, 2, 1, 1);
        misread("one great letter that becomes none", "A", 5, 2, 1, 1);
        misread("two signs for great letters, of which the second is lost", "AB", 5, 3, 1, 1);
        misread("two signs for great letters that are felt", "AB", 5, 4, 0, 0);
        misread("a mark that is lost", "a,", 1, 1, 0, 0);
        misread("the second mark that is lost", "a, a,", 1, 1, 1, 1);
        misread("a mark that becomes another one", "a?", 5, 2, 1, 1);
        misread("a mark that is felt", "a?", 5, 3, 0, 0);
        misread("a sign for numbers that is none any more", "1", 4, 2, 1, 1);
        misread("a digit that becomes another one", "4", 4, 3, 1, 1);
        misread("a digit that becomes none", "1", 0, 2, 1, 1);
        misread("digits that are felt", "*1234567890".substring(0, 7) + ".", 4, 7, 0, 0);
        misread("a letter that becomes another one", "c", 3, 2, 1, 1);
        misread("a last letter that becomes a mark", "bb", 0, 3, 1, 1);
        misread("the only letter that becomes a mark: it is not read", "b", 0, 2, 1, 1);
        misread("the only letter behind a sign that becomes a mark", "B", 0, 2, 1, 1);
        Step lettered = all(newCode(), contract(0, "xy", 1, 0, 5, 0), contract(0, "ab", 1, 0, 5, 0), newBook(0, 1, 40, 3, true), add(0, "ab"));
        test("a sign for letters that is felt", lettered, emboss(0, 0), ofCopy(0, "0 0 0 0 -1 -1 0"));
        test("a sign for letters that becomes one for great letters", lettered, renew(0, 4, 2), emboss(0, 0), is(x -> x.felt(0, 0, 1, 2), 32), ofCopy(0, "0 1 1 0 -1 -1 0"));
        test("a sign for letters that becomes a second one for great letters", newCode(), contract(0, "xy", 1, 0, 5, 0), contract(0, "ab", 1, 0, 5, 0),
            newBook(0, 1, 40, 3, true), add(0, "Ab"), renew(0, 4, 2), emboss(0, 0), is(x -> x.felt(0, 0, 1, 3), 32), ofCopy(0, "0 1 1 0 -1 -1 0"));
        test("a sign for letters that is none any more", lettered, renew(0, 5, 2), emboss(0, 0), is(x -> x.felt(0, 0, 1, 2), 16), ofCopy(0, "0 1 1 0 -1 -1 0"));
    }

    private static void misreadCells() {
        promise(26);
        Step twins = all(newCode(), contract(0, "ab", 1, 0, 63, 0), contract(0, "ab", 1, 0, 62, 0), newBook(0, 1, 18, 3, true), add(0, "ab"));
        test("a contraction that becomes one of the same letters", twins, renew(0, 0, 2), emboss(0, 0), is(x -> x.felt(0, 0, 1, 2), 62), ofCopy(0, "0 1 0 0 -1 -1 0"));
        test("a contraction that becomes one above the grade", newCode(), contract(0, "ab", 1, 0, 63, 0), contract(0, "ab", 2, 0, 62, 0), newBook(0, 1, 18, 3, true),
            add(0, "ab"), renew(0, 0, 2), emboss(0, 0), ofCopy(0, "0 1 1 0 -1 -1 0"));
        test("a contraction that becomes none", newCode(), contract(0, "ab", 1, 0, 63, 0), newBook(0, 1, 18, 3, true), add(0, "ab"), renew(0, 0, 2), emboss(0, 0),
            ofCopy(0, "0 1 1 0 -1 -1 0"));
        test("a contraction that becomes a letter", newCode(), contract(0, "ab", 1, 0, 1, 8), newBook(0, 1, 18, 3, true), add(0, "ab"), renew(0, 3, 2), emboss(0, 0),
            is(x -> x.felt(0, 0, 1, 3), 0), ofCopy(0, "0 1 1 0 -1 -1 0"));
        test("a letter that becomes a contraction", newCode(), contract(0, "but", 1, Touchpress.WHOLE, 3, 0), newBook(0, 1, 18, 3, true), add(0, "l"), renew(0, 2, 2),
            emboss(0, 0), is(x -> x.felt(0, 0, 1, 2), 3), ofCopy(0, "0 1 1 0 -1 -1 0"));
        test("a contraction of the whole, in a word with star, sign and mark", newCode(), contract(0, "but", 1, Touchpress.WHOLE, 3, 0), newBook(0, 1, 18, 3, true),
            add(0, "*BUT, but B."), emboss(0, 0), ofCopy(0, "0 0 0 0 -1 -1 0"));
        test("the longest word is read", newCode(), contract(0, "zz", 1, 0, 1, 0), newBook(0, 1, 18, 3, true), add(0, "*ABCDEFGHIJ, *123456."), emboss(0, 0),
            ofCopy(0, "0 0 0 0 -1 -1 0"));
        test("all words of a full book are read", newCode(), newBook(0, 0, 18, 3, true), add(0, "a b ".repeat(14) + "c d"), add(0, "1/2|".repeat(14) + "3|4"),
            add(0, "AB ".repeat(14) + "*ab Ab."), add(0, "e f g h"), is(x -> x.ofBook(0, 0), 80), renew(0, 2, 9999), renew(0, 5, 9999), emboss(0, 0),
            ofCopy(0, "0 0 0 0 -1 -1 0"));
    }

    /** Cabc, is divided as c ab c and marked; it stands in two lines, those of two pages. */
    private static Step inTwoPages() {
        return all(newCode(), contract(0, "qu", 1, 0, 1, 3), divide("c ab c"), newBook(0, 1, 18, 3, true), add(0, "k/kkkkkkkkkk Cabc, k"));
    }

    private static Step inTwoLines() {
        return all(newCode(), contract(0, "qu", 1, 0, 1, 3), divide("c ab c"), newBook(0, 1, 18, 3, true), add(0, "kkkkkkkkkk Cabc, k"));
    }

    private static void misreadLines() {
        promise(26);
        test("a word in two lines of a page", inTwoLines(), word(0, 1, "7 1 0 1 13 1 1 0"), emboss(0, 0), ofCopy(0, "0 0 0 0 -1 -1 0"));
        test("a word in two lines of two pages", inTwoPages(), word(0, 2, "7 1 0 2 13 1 1 0"), emboss(0, 0), ofCopy(0, "0 0 0 0 -1 -1 0"));
        // The dots 3 are two in the head, ten of k, one of the hyphen, and one of the last k, which is lost.
        test("its hyphen became a sign, and is left out", inTwoLines(), renew(0, 2, 12), emboss(0, 0), is(x -> x.felt(0, 0, 1, 16), 32),
            ofCopy(0, "0 2 1 0 -1 -1 0"));
        // The dots 6 are two in the head, the sign for great letters, that for letters, the hyphen.
        test("only its hyphen lost a dot", inTwoLines(), renew(0, 5, 4), emboss(0, 0), is(x -> x.felt(0, 0, 1, 16), 4), ofCopy(0, "0 1 0 0 -1 -1 0"));
        test("its sign in the first line lost a dot", inTwoLines(), renew(0, 5, 3), emboss(0, 0), ofCopy(0, "0 2 1 0 -1 -1 0"));
        // The dots 2 are that of b and that of the mark, in the second line.
        test("its mark in the second line is lost", inTwoLines(), renew(0, 1, 1), emboss(0, 0), ofCopy(0, "0 1 1 0 -1 -1 0"));
        test("its mark on the second page is lost", inTwoPages(), renew(0, 1, 2), emboss(0, 0), is(x -> x.felt(0, 1, 1, 3), 0), is(x -> x.ofCopy(0, 2), 1));
        test("its mark on the second page is felt", inTwoPages(), renew(0, 1, 3), emboss(0, 0), ofCopy(0, "0 0 0 0 -1 -1 0"));
    }

    // ---- what is hurt

    private static Step lent() {
        return all(make(x -> x.reader(0)), make(x -> x.wish(0, 0)), emboss(0, 0), make(x -> x.pass(1)));
    }

    private static void hurtPages() {
        promise(26);
        test("the first page of a word in two pages is hurt", inTwoPages(), make(x -> x.reader(0)), make(x -> x.teach(0, 0, 0)), make(x -> x.wish(0, 0)), emboss(0, 0),
            make(x -> x.pass(1)), make(x -> x.giveBack(0, 0)), ofCopy(0, "0 0 3 1 -1 -1 1"), is(x -> x.felt(0, 0, 0, 0), 0), is(x -> x.felt(0, 1, 0, 0), 60));
        test("its second page is hurt", inTwoPages(), lent(), make(x -> x.giveBack(0, 1)), ofCopy(0, "0 0 2 1 -1 -1 1"), is(x -> x.felt(0, 1, 0, 0), 0),
            is(x -> x.felt(0, 0, 0, 0), 60));
        test("no page is hurt", inTwoPages(), lent(), make(x -> x.giveBack(0, -1)), ofCopy(0, "0 0 0 0 -1 -1 1"));
        test("the first cell and the last one of a hurt page", withBook("a/b/c"), lent(), make(x -> x.giveBack(0, 0)), is(x -> x.felt(0, 0, 0, 0), 0),
            is(x -> x.felt(0, 0, 0, 17), 0), is(x -> x.felt(0, 0, 2, 2), 0), is(x -> x.felt(0, 1, 0, 0), 60), is(x -> x.felt(0, 1, 1, 2), 9));
        test("the last page is hurt", withBook("a/b/c"), lent(), make(x -> x.giveBack(0, 1)), is(x -> x.felt(0, 0, 2, 2), 3), is(x -> x.felt(0, 1, 0, 0), 0),
            is(x -> x.felt(0, 1, 1, 2), 0), ofCopy(0, "0 0 1 1 -1 -1 1"));
        test("another copy is not hurt", withBook("a/b/c"), lent(), emboss(0, 0), make(x -> x.giveBack(0, 0)), ofCopy(1, "0 0 0 0 -1 -1 0"), is(x -> x.felt(1, 0, 0, 0), 60));
        test("the book is not hurt", withBook("a/b/c"), lent(), make(x -> x.giveBack(0, 0)), is(x -> x.at(0, 0, 0, 0), 60), is(x -> x.ofBook(0, 4), 26));
        test("dots that were not raised stay told", withBook("a/b/c"), renew(0, 0, 1), lent(), make(x -> x.giveBack(0, 0)), is(x -> x.ofCopy(0, 1), 6));
    }

    // ---- promise 27

    private static void sheetsOf(String name, String text, boolean isBoth, int copies, int due) {
        test(name, newCode(), newBook(0, 0, 18, 3, isBoth), add(0, text), times(copies, emboss(0, 0)), is(x -> x.sheets(), due));
    }

    private static void sheets() {
        promise(27);
        sheetsOf("no copies", "a", true, 0, 0);
        sheetsOf("one page, one side", "a", false, 1, 1);
        sheetsOf("one page, both sides: rounded up", "a", true, 1, 1);
        sheetsOf("two pages, one side", "a/b/c", false, 1, 2);
        sheetsOf("two pages, both sides", "a/b/c", true, 1, 1);
        sheetsOf("three pages, one side", "a/b/c/d/e", false, 1, 3);
        sheetsOf("three pages, both sides: rounded up", "a/b/c/d/e", true, 1, 2);
        sheetsOf("four pages, both sides", "a/b/c/d/e/f/g", true, 1, 2);
        sheetsOf("each copy is rounded up by itself", "a", true, 2, 2);
        sheetsOf("twenty copies of three pages, both sides", "a/b/c/d/e", true, 20, 40);
        test("books on one side and on both", withBook("a/b/c"), newBook(0, 0, 18, 3, false), add(1, "a/b/c"), emboss(0, 0), emboss(0, 1), is(x -> x.sheets(), 3));
        test("a copy that lost all its dots takes its sheets", withBook("a"), renew(0, 0, 1), times(3, emboss(0, 0)), is(x -> x.sheets(), 3));
        test("a copy that was refused takes none", withBook("a"), newBook(0, 0, 18, 3, true), no(x -> x.emboss(0, 1), STATE), is(x -> x.sheets(), 0));
    }
}
