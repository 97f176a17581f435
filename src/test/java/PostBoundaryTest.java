/** The boundary cases of the promises 28 to 37: readers, wishes, secret books, days, copies that come back. */
public final class PostBoundaryTest extends Boundaries {
    public static void main(String[] args) {
        readers();
        teachArguments();
        taught();
        unknown();
        wishArguments();
        wishLimits();
        secretArguments();
        secretDays();
        passArguments();
        passDays();
        sending();
        sendingOrder();
        giveBackArguments();
        givenBack();
        hurtCopies();
        ahead();
        late();
        end();
    }

    // ---- steps

    private static Step reader(int rank) {
        return make(x -> x.reader(rank));
    }

    private static Step teach(int reader, int code, int contraction) {
        return make(x -> x.teach(reader, code, contraction));
    }

    private static Step wish(int reader, int book) {
        return make(x -> x.wish(reader, book));
    }

    private static Step emboss(int book) {
        return make(x -> x.emboss(0, book));
    }

    private static Step giveBack(int copy, int hurt) {
        return make(x -> x.giveBack(copy, hurt));
    }

    private static Step pass(int days) {
        return all(times(days / 100, make(x -> x.pass(100))), days % 100 == 0 ? all() : make(x -> x.pass(days % 100)));
    }

    private static Step holder(int copy, int reader) {
        return is(x -> x.ofCopy(copy, 4), reader);
    }

    private static Step dueOn(int copy, int day) {
        return is(x -> x.ofCopy(copy, 5), day);
    }

    /** So many books of three pages, a copy of each. */
    private static Step house(int books) {
        Step made = newCode();
        for (int i = 0; i < books; i++) {
            int book = i;
            made = all(made, newBook(0, 0, 18, 3, true), add(book, "a/b/c/d/e"), emboss(book));
        }
        return made;
    }

    // ---- promise 28

    private static void readers() {
        promise(28);
        for (int rank : new int[] {-1, 3, LEAST, MOST}) {
            test("the rank " + rank, no(x -> x.reader(rank), ARGUMENT), no(x -> x.late(0), BOUNDS), is(x -> x.reader(0), 0));
        }
        for (int rank : new int[] {0, 1, 2}) {
            test("the rank " + rank, is(x -> x.reader(rank), 0), is(x -> x.late(0), 0));
        }
        test("six readers", is(x -> x.reader(0), 0), is(x -> x.reader(0), 1), is(x -> x.reader(0), 2), is(x -> x.reader(0), 3), is(x -> x.reader(0), 4),
            is(x -> x.reader(2), 5));
        test("a seventh reader", times(6, reader(1)), no(x -> x.reader(1), STATE), is(x -> x.late(5), 0), no(x -> x.late(6), BOUNDS));
        test("a seventh reader of the rank 3", times(6, reader(1)), no(x -> x.reader(3), ARGUMENT));
    }

    // ---- promise 29

    private static Step withContractions() {
        return all(times(2, newCode()), contract(0, "ab", 1, 0, 63, 0), contract(0, "cd", 1, 0, 62, 0), contract(1, "ab", 1, 0, 63, 0), times(2, reader(0)));
    }

    private static void teachArguments() {
        promise(29);
        for (int reader : new int[] {-1, 2, LEAST, MOST}) {
            test("the reader " + reader, withContractions(), no(x -> x.teach(reader, 0, 0), BOUNDS), is(x -> x.teach(0, 0, 1), 1));
        }
        for (int code : new int[] {-1, 2, 3, LEAST, MOST}) {
            test("the code " + code, withContractions(), no(x -> x.teach(0, code, 0), BOUNDS), is(x -> x.teach(0, 0, 1), 1));
        }
        for (int contraction : new int[] {-1, 2, 24, 32, LEAST, MOST}) {
            test("the contraction " + contraction + " of two", withContractions(), no(x -> x.teach(0, 0, contraction), BOUNDS), is(x -> x.teach(0, 0, 1), 1));
        }
        test("a contraction that only another code has", withContractions(), no(x -> x.teach(0, 1, 1), BOUNDS), is(x -> x.teach(0, 1, 0), 1));
        test("a code without contractions", newCode(), reader(0), no(x -> x.teach(0, 0, 0), BOUNDS));
    }

    private static void taught() {
        promise(29);
        test("the first one", withContractions(), is(x -> x.teach(0, 0, 0), 1));
        test("the same one again", withContractions(), is(x -> x.teach(0, 0, 0), 1), is(x -> x.teach(0, 0, 0), 1));
        test("all of them", withContractions(), is(x -> x.teach(0, 0, 1), 1), is(x -> x.teach(0, 0, 0), 2));
        test("of each code by itself", withContractions(), is(x -> x.teach(0, 0, 0), 1), is(x -> x.teach(0, 1, 0), 1), is(x -> x.teach(0, 0, 1), 2));
        test("each reader by itself", withContractions(), is(x -> x.teach(0, 0, 0), 1), is(x -> x.teach(1, 0, 1), 1));
        test("the 24th of a code", newCode(), times(24, contract(0, "ab", 1, 0, 63, 0)), reader(0), is(x -> x.teach(0, 0, 23), 1), is(x -> x.teach(0, 0, 0), 2));
        test("of the third code", times(3, newCode()), contract(2, "ab", 1, 0, 63, 0), reader(0), is(x -> x.teach(0, 2, 0), 1));
        test("with all 24 of a code", newCode(), times(24, contract(0, "ab", 1, 0, 63, 0)), reader(0), is(x -> {
            int known = 0;
            for (int i = 0; i < 24; i++) {
                known = x.teach(0, 0, i);
            }
            return known;
        }, 24));
    }

    // ---- promise 30

    private static void unknown() {
        promise(30);
        Step made = all(withContractions(), newBook(0, 1, 40, 3, true), newBook(1, 1, 40, 3, true), newBook(0, 0, 40, 3, true));
        for (int reader : new int[] {-1, 2, 6, LEAST, MOST}) {
            test("the reader " + reader, made, no(x -> x.unknown(reader, 0), BOUNDS));
        }
        for (int book : new int[] {-1, 3, 4, LEAST, MOST}) {
            test("the book " + book, made, no(x -> x.unknown(0, book), BOUNDS));
        }
        test("a book without words", made, is(x -> x.unknown(0, 0), 0));
        test("words of letters alone, and digits", made, add(0, "a ba 12"), is(x -> x.unknown(0, 0), 0));
        test("one word of three", made, add(0, "a ab 12"), is(x -> x.unknown(0, 0), 1));
        test("a word with two unknown ones is one", made, add(0, "abcd"), is(x -> x.unknown(0, 0), 1));
        test("a word with one unknown of two", made, add(0, "abcd"), teach(0, 0, 0), is(x -> x.unknown(0, 0), 1), teach(0, 0, 1), is(x -> x.unknown(0, 0), 0));
        test("the same word twice is two", made, add(0, "ab ab"), is(x -> x.unknown(0, 0), 2));
        test("the contraction of another code", made, add(0, "ab"), teach(0, 1, 0), is(x -> x.unknown(0, 0), 1), teach(0, 0, 0), is(x -> x.unknown(0, 0), 0));
        test("what another reader knows", made, add(0, "ab"), teach(1, 0, 0), is(x -> x.unknown(0, 0), 1), is(x -> x.unknown(1, 0), 0));
        test("a book in a grade without it", made, add(2, "ab"), is(x -> x.unknown(0, 2), 0));
        test("a marked word", newCode(), contract(0, "but", 1, Touchpress.WHOLE, 3, 0), newBook(0, 1, 18, 3, true), add(0, "b but"), reader(0), is(x -> x.unknown(0, 0), 1));
        test("a marked word, though a contraction was found for it", newCode(), contract(0, "ab", 1, 0, 63, 0), contract(0, "zz", 1, 0, 9, 0), newBook(0, 1, 18, 3, true),
            add(0, "abc"), reader(0), is(x -> x.unknown(0, 0), 0), is(x -> x.wish(0, 0), 1));
        test("the 24th contraction", newCode(), times(23, contract(0, "zz", 1, 0, 62, 0)), contract(0, "ab", 1, 0, 63, 0), newBook(0, 1, 18, 3, true), add(0, "ab"),
            reader(0), is(x -> x.unknown(0, 0), 1), teach(0, 0, 23), is(x -> x.unknown(0, 0), 0));
        test("all words of a full book", made, add(0, "ab ".repeat(19) + "ab"), add(0, "ab ".repeat(19) + "ab"), add(0, "ab ".repeat(19) + "ab"),
            add(0, "ab ".repeat(19) + "ab"), is(x -> x.unknown(0, 0), 80));
    }

    // ---- promise 31

    private static void wishArguments() {
        promise(31);
        Step made = all(house(2), times(2, reader(0)));
        for (int reader : new int[] {-1, 2, 6, LEAST, MOST}) {
            test("the reader " + reader, made, no(x -> x.wish(reader, 0), BOUNDS), is(x -> x.wish(0, 0), 1));
        }
        for (int book : new int[] {-1, 2, 4, LEAST, MOST}) {
            test("the book " + book, made, no(x -> x.wish(0, book), BOUNDS), is(x -> x.wish(0, 0), 1));
        }
        test("the first wish", made, is(x -> x.wish(0, 0), 1));
        test("the second wish for a book", made, is(x -> x.wish(0, 0), 1), is(x -> x.wish(1, 0), 2));
        test("wishes for another book", made, is(x -> x.wish(0, 0), 1), is(x -> x.wish(1, 1), 1));
        test("a book without words and without copies", newCode(), newBook(0, 0, 18, 3, true), reader(0), is(x -> x.wish(0, 0), 1));
    }

    private static void wishLimits() {
        promise(31);
        Step made = all(house(2), times(2, reader(0)));
        test("the reader waits for it", made, wish(0, 0), no(x -> x.wish(0, 0), STATE), is(x -> x.wish(1, 0), 2));
        test("the reader waits for another one", made, wish(0, 0), is(x -> x.wish(0, 1), 1));
        test("the reader has a copy of it", made, wish(0, 0), pass(1), no(x -> x.wish(0, 0), STATE), is(x -> x.ahead(0, 0), -1));
        test("the reader has a copy of it, and another one is in the house", made, emboss(0), wish(0, 0), pass(1), no(x -> x.wish(0, 0), STATE));
        test("another reader has a copy of it", made, wish(1, 0), pass(1), is(x -> x.wish(0, 0), 1));
        test("the reader gave it back", made, wish(0, 0), pass(1), giveBack(0, -1), is(x -> x.wish(0, 0), 1));
        test("the reader has two copies of others", house(3), reader(0), wish(0, 0), wish(0, 1), pass(1), is(x -> x.wish(0, 2), 1));
        Step contracted = all(newCode(), contract(0, "ab", 1, 0, 63, 0), newBook(0, 1, 18, 3, true), add(0, "c ab"), reader(0));
        test("one word that the reader cannot read", contracted, no(x -> x.wish(0, 0), STATE), is(x -> x.ahead(0, 0), -1));
        test("no such word any more", contracted, no(x -> x.wish(0, 0), STATE), teach(0, 0, 0), is(x -> x.wish(0, 0), 1));
        test("a marked word is read by all", newCode(), contract(0, "but", 1, Touchpress.WHOLE, 3, 0), newBook(0, 1, 18, 3, true), add(0, "b"), reader(0),
            is(x -> x.wish(0, 0), 1));
        Step most = all(newCode(), times(4, newBook(0, 0, 18, 3, true)), times(6, reader(0)));
        for (int i = 0; i < 23; i++) {
            most = all(most, wish(i / 4, i % 4));
        }
        test("all readers wait for all books", most, is(x -> x.wish(5, 3), 6), is(x -> x.ahead(5, 3), 5), no(x -> x.wish(5, 3), STATE), no(x -> x.wish(0, 0), STATE));
        test("a secret book can be wished for", made, make(x -> x.secret(0, 1000, 0)), is(x -> x.wish(0, 0), 1));
    }

    // ---- promise 32

    private static void secretArguments() {
        promise(32);
        Step made = all(house(1), newBook(0, 0, 18, 3, true));
        for (int book : new int[] {-1, 2, 4, LEAST, MOST}) {
            test("the book " + book, made, no(x -> x.secret(book, 5, 0), BOUNDS));
            test("the book " + book + " and a wrong day", made, no(x -> x.secret(book, -1, 64), BOUNDS));
        }
        for (int day : new int[] {-1, 1001, LEAST, MOST}) {
            test("the day " + day, made, make(x -> x.secret(0, 7, 1)), no(x -> x.secret(0, day, 0), ARGUMENT), is(x -> x.secret(0, 0, 0), 7));
        }
        for (int bits : new int[] {-1, 64, LEAST, MOST}) {
            test("the readers " + bits, made, make(x -> x.secret(0, 7, 1)), no(x -> x.secret(0, 9, bits), ARGUMENT), is(x -> x.secret(0, 0, 0), 7));
        }
        for (int day : new int[] {0, 1000}) {
            test("the day " + day, made, is(x -> x.secret(0, day, 0), 0), is(x -> x.secret(0, 1, 0), day));
        }
        for (int bits : new int[] {0, 63}) {
            test("the readers " + bits, made, is(x -> x.secret(0, 1, bits), 0), is(x -> x.secret(0, 0, 0), 1));
        }
        test("the day 0 was told at first, for each book", made, is(x -> x.secret(0, 3, 0), 0), is(x -> x.secret(1, 4, 0), 0), is(x -> x.secret(0, 0, 0), 3));
        test("a day that was", made, pass(5), is(x -> x.secret(0, 2, 0), 0), is(x -> x.secret(0, 0, 0), 2));
    }

    private static void secretDays() {
        promise(32);
        Step made = all(house(1), times(2, reader(0)), wish(1, 0));
        test("one day before it may not be sent", made, make(x -> x.secret(0, 2, 0)), is(x -> x.pass(1), 0), holder(0, -1), is(x -> x.ahead(1, 0), 0));
        test("on the day it may be sent", made, make(x -> x.secret(0, 2, 0)), is(x -> x.pass(2), 1), dueOn(0, 22));
        test("the next day is the day", made, make(x -> x.secret(0, 1, 0)), is(x -> x.pass(1), 1), holder(0, 1));
        test("the day 0 is no secret", made, make(x -> x.secret(0, 0, 0)), is(x -> x.pass(1), 1));
        test("the day 1000", made, make(x -> x.secret(0, 1000, 0)), is(x -> {
            int sent = 0;
            for (int i = 0; i < 9; i++) {
                sent += x.pass(100);
            }
            return sent + x.pass(99);
        }, 0), is(x -> x.pass(1), 1), dueOn(0, 1020));
        test("a reader who may have it", made, make(x -> x.secret(0, 5, 2)), is(x -> x.pass(1), 1), holder(0, 1));
        test("the bit of another reader", made, make(x -> x.secret(0, 5, 1)), is(x -> x.pass(4), 0), is(x -> x.pass(1), 1));
        test("the bits of all others", made, make(x -> x.secret(0, 5, 61)), is(x -> x.pass(4), 0));
        test("the bit of the sixth reader", house(1), times(6, reader(0)), wish(5, 0), make(x -> x.secret(0, 5, 32)), is(x -> x.pass(1), 1), holder(0, 5));
        test("all bits", made, make(x -> x.secret(0, 5, 63)), is(x -> x.pass(1), 1));
        test("one who may goes ahead of one who may not", house(1), reader(2), reader(0), wish(0, 0), wish(1, 0), make(x -> x.secret(0, 5, 2)), is(x -> x.pass(1), 1), holder(0, 1));
        test("in place of what was told: a day that was", made, make(x -> x.secret(0, 9, 0)), pass(3), make(x -> x.secret(0, 3, 0)), is(x -> x.pass(1), 1));
        test("in place of what was told: a later day", made, make(x -> x.secret(0, 1, 63)), make(x -> x.secret(0, 3, 0)), is(x -> x.pass(2), 0), is(x -> x.pass(1), 1));
        test("copies that are with readers stay", made, pass(1), make(x -> x.secret(0, 100, 0)), holder(0, 1), is(x -> x.pass(5), 0), holder(0, 1), dueOn(0, 21));
        test("another book is no secret", house(2), reader(0), wish(0, 1), make(x -> x.secret(0, 100, 0)), is(x -> x.pass(1), 1), holder(1, 0));
    }

    // ---- promises 33 and 34

    private static void passArguments() {
        promise(33);
        Step waiting = all(house(1), reader(0), wish(0, 0));
        for (int days : new int[] {0, -1, 101, LEAST, MOST}) {
            test("the days " + days, waiting, no(x -> x.pass(days), ARGUMENT), is(x -> x.day(), 0), holder(0, -1));
        }
        test("one day", waiting, is(x -> x.pass(1), 1), is(x -> x.day(), 1));
        test("a hundred days", waiting, is(x -> x.pass(100), 1), is(x -> x.day(), 100), dueOn(0, 21));
        test("up to the day 1000", pass(900), is(x -> x.pass(100), 0), is(x -> x.day(), 1000));
        test("a hundred up to the day 1001", pass(901), no(x -> x.pass(100), STATE), is(x -> x.day(), 901), is(x -> x.pass(99), 0), is(x -> x.day(), 1000));
        test("one up to the day 1001", house(1), reader(0), pass(1000), wish(0, 0), no(x -> x.pass(1), STATE), is(x -> x.day(), 1000), holder(0, -1));
        test("the last day, and no days", pass(1000), no(x -> x.pass(0), ARGUMENT), no(x -> x.pass(101), ARGUMENT));
        test("two up to the day 1001: not one of them passes", house(1), reader(0), pass(999), wish(0, 0), no(x -> x.pass(2), STATE), is(x -> x.day(), 999), holder(0, -1),
            is(x -> x.pass(1), 1), dueOn(0, 1020));
    }

    private static void passDays() {
        promise(34);
        test("the first day", is(x -> x.day(), 0));
        test("one day later", pass(1), is(x -> x.day(), 1));
        test("many days at once", is(x -> x.pass(100), 0), is(x -> x.day(), 100), is(x -> x.pass(3), 0), is(x -> x.day(), 103));
        test("the last day", pass(1000), is(x -> x.day(), 1000));
        test("no other call lets a day pass", house(1), reader(0), wish(0, 0), make(x -> x.secret(0, 3, 0)), is(x -> x.day(), 0));
    }

    private static void sending() {
        promise(33);
        test("no copy, no wish", newCode(), is(x -> x.pass(1), 0));
        test("a wish without a copy", newCode(), newBook(0, 0, 18, 3, true), reader(0), wish(0, 0), is(x -> x.pass(1), 0), is(x -> x.ahead(0, 0), 0));
        test("a copy without a wish", house(1), reader(0), is(x -> x.pass(1), 0), holder(0, -1));
        test("a wish for another book", house(2), reader(0), wish(0, 1), is(x -> x.pass(1), 1), holder(0, -1), holder(1, 0));
        test("the day on which it was wished for it is not sent", house(1), reader(0), wish(0, 0), holder(0, -1), dueOn(0, -1));
        test("the next day it is sent, due twenty days later", house(1), reader(0), wish(0, 0), is(x -> x.pass(1), 1), ofCopy(0, "0 0 0 0 0 21 1"));
        test("sent on the first of many days", house(1), reader(0), wish(0, 0), pass(7), giveBack(0, -1), wish(0, 0), is(x -> x.pass(50), 1), dueOn(0, 28));
        test("sent once, though there are two copies", house(1), emboss(0), reader(0), wish(0, 0), is(x -> x.pass(3), 1), holder(0, 0), holder(1, -1));
        test("the copy of the lower number first", house(1), emboss(0), times(2, reader(0)), wish(1, 0), wish(0, 0), is(x -> x.pass(1), 2), holder(0, 1), holder(1, 0));
        test("a copy that is with a reader is not sent", house(1), times(2, reader(0)), wish(0, 0), pass(1), wish(1, 0), is(x -> x.pass(30), 0), holder(0, 0));
        test("a reader with one copy", house(2), reader(0), wish(0, 0), pass(1), wish(0, 1), is(x -> x.pass(1), 1), holder(1, 0), dueOn(1, 22));
        test("a reader with two copies", house(3), reader(0), wish(0, 0), wish(0, 1), pass(1), wish(0, 2), is(x -> x.pass(1), 0), holder(2, -1), is(x -> x.ahead(0, 2), 0));
        test("a reader who gets two on one day gets no third", house(3), reader(0), wish(0, 2), wish(0, 1), wish(0, 0), is(x -> x.pass(1), 2), holder(0, 0), holder(1, 0),
            holder(2, -1));
        test("a reader with two copies, and one behind", house(3), reader(2), reader(0), wish(0, 0), wish(0, 1), pass(1), wish(0, 2), wish(1, 2), is(x -> x.pass(1), 1),
            holder(2, 1));
        test("a reader who gave one of two back", house(3), reader(0), wish(0, 0), wish(0, 1), pass(1), wish(0, 2), giveBack(0, -1), is(x -> x.pass(1), 1), holder(2, 0));
    }

    private static void sendingOrder() {
        promise(33);
        test("the highest rank, that came last", house(1), reader(0), reader(1), reader(2), wish(0, 0), wish(1, 0), wish(2, 0), is(x -> x.pass(1), 1), holder(0, 2));
        test("the rank 1 ahead of the rank 0", house(1), reader(0), reader(1), wish(0, 0), wish(1, 0), is(x -> x.pass(1), 1), holder(0, 1));
        test("of several the one that came first", house(1), times(3, reader(1)), wish(2, 0), wish(0, 0), wish(1, 0), is(x -> x.pass(1), 1), holder(0, 2));
        test("the wish is gone then, the next one is the first", house(1), times(3, reader(1)), wish(2, 0), wish(0, 0), wish(1, 0), pass(1), giveBack(0, -1),
            is(x -> x.ahead(2, 0), -1), is(x -> x.ahead(0, 0), 0), is(x -> x.pass(1), 1), holder(0, 0));
        test("a wish that is made again comes last", house(1), times(2, reader(1)), wish(0, 0), wish(1, 0), pass(1), giveBack(0, -1), wish(0, 0), is(x -> x.pass(1), 1),
            holder(0, 1));
        test("how often a copy was sent", house(1), reader(0), wish(0, 0), pass(1), giveBack(0, -1), wish(0, 0), pass(1), is(x -> x.ofCopy(0, 6), 2));
        test("a wish that came on the way: the gone one leaves a gap", house(2), times(3, reader(0)), wish(0, 0), wish(1, 1), wish(2, 0), is(x -> x.pass(1), 2), holder(0, 0),
            holder(1, 1), is(x -> x.ahead(2, 0), 0));
    }

    // ---- promise 35

    private static Step lent() {
        return all(house(1), reader(0), wish(0, 0), pass(1));
    }

    private static void giveBackArguments() {
        promise(35);
        for (int copy : new int[] {-1, 1, 20, LEAST, MOST}) {
            test("the copy " + copy, lent(), no(x -> x.giveBack(copy, -1), BOUNDS), holder(0, 0));
        }
        for (int page : new int[] {-2, 3, 4, LEAST, MOST}) {
            test("the page " + page + " of three", lent(), no(x -> x.giveBack(0, page), BOUNDS), holder(0, 0), is(x -> x.ofCopy(0, 3), 0));
        }
        for (int page : new int[] {0, 2}) {
            test("the page " + page + " of three", lent(), is(x -> x.giveBack(0, page), 0), holder(0, -1), is(x -> x.ofCopy(0, 3), 1));
        }
        test("no page", lent(), is(x -> x.giveBack(0, -1), 0), ofCopy(0, "0 0 0 0 -1 -1 1"));
        test("a copy that is in the house", house(1), no(x -> x.giveBack(0, -1), STATE), no(x -> x.giveBack(0, 0), STATE), is(x -> x.ofCopy(0, 3), 0));
        test("a copy that came back", lent(), giveBack(0, -1), no(x -> x.giveBack(0, 0), STATE), is(x -> x.ofCopy(0, 3), 0), is(x -> x.felt(0, 0, 0, 0), 60));
        test("a copy that is in the house, and no page of it", house(1), no(x -> x.giveBack(0, 3), BOUNDS), no(x -> x.giveBack(0, -2), BOUNDS));
        test("a page that only another copy has", house(1), newBook(0, 0, 18, 3, true), add(1, "a"), emboss(1), reader(0), wish(0, 1), pass(1),
            no(x -> x.giveBack(1, 1), BOUNDS), is(x -> x.giveBack(1, 0), 0));
    }

    private static void givenBack() {
        promise(35);
        test("on the day on which it was sent", lent(), is(x -> x.giveBack(0, -1), 0));
        test("a day before it is due", lent(), pass(19), is(x -> x.giveBack(0, -1), 0));
        test("on the day on which it is due", lent(), pass(20), is(x -> x.giveBack(0, -1), 0));
        test("one day late", lent(), pass(21), is(x -> x.giveBack(0, -1), 1));
        test("late on the last day", lent(), pass(999), is(x -> x.day(), 1000), is(x -> x.giveBack(0, -1), 979));
        test("the day due of a later time", lent(), pass(21), giveBack(0, -1), wish(0, 0), pass(1), dueOn(0, 43), pass(20), is(x -> x.giveBack(0, -1), 0));
        test("it is in the house then, and sent the next day", lent(), giveBack(0, -1), wish(0, 0), holder(0, -1), is(x -> x.pass(1), 1), holder(0, 0));
    }

    private static void hurtCopies() {
        promise(35);
        Step again = all(wish(0, 0), pass(1));
        test("one hurt page: it is sent", lent(), giveBack(0, 0), wish(0, 0), is(x -> x.pass(1), 1), is(x -> x.ofCopy(0, 3), 1));
        test("two hurt pages: it is not sent", lent(), giveBack(0, 0), again, giveBack(0, 1), wish(0, 0), is(x -> x.pass(100), 0), is(x -> x.ofCopy(0, 3), 2));
        test("the same page twice is one: it is sent", lent(), giveBack(0, 1), again, giveBack(0, 1), wish(0, 0), is(x -> x.pass(1), 1), is(x -> x.ofCopy(0, 3), 1));
        test("two hurt pages, and a copy behind", lent(), giveBack(0, 0), again, giveBack(0, 2), emboss(0), wish(0, 0), is(x -> x.pass(1), 1), holder(0, -1), holder(1, 0));
        test("all of a book of one page", newCode(), newBook(0, 0, 18, 3, true), add(0, "a"), emboss(0), reader(0), wish(0, 0), pass(1), giveBack(0, 0), wish(0, 0),
            is(x -> x.pass(1), 1), giveBack(0, 0), is(x -> x.ofCopy(0, 3), 1), is(x -> x.ofCopy(0, 2), 1));
        test("the day on which it is late, with a hurt page", lent(), pass(25), is(x -> x.giveBack(0, 0), 5), is(x -> x.late(0), 5));
    }

    // ---- promise 36

    private static void ahead() {
        promise(36);
        Step made = all(house(2), reader(0), reader(1), reader(2), reader(1));
        for (int reader : new int[] {-1, 4, 6, LEAST, MOST}) {
            test("the reader " + reader, made, no(x -> x.ahead(reader, 0), BOUNDS));
        }
        for (int book : new int[] {-1, 2, 4, LEAST, MOST}) {
            test("the book " + book, made, no(x -> x.ahead(0, book), BOUNDS));
        }
        test("no wish", made, is(x -> x.ahead(0, 0), -1));
        test("the only wish", made, wish(0, 0), is(x -> x.ahead(0, 0), 0));
        test("a wish for another book", made, wish(0, 1), is(x -> x.ahead(0, 0), -1), is(x -> x.ahead(0, 1), 0));
        test("a wish of another reader", made, wish(1, 0), is(x -> x.ahead(0, 0), -1), is(x -> x.ahead(1, 0), 0));
        test("a higher rank, that came later", made, wish(0, 0), wish(1, 0), is(x -> x.ahead(0, 0), 1), is(x -> x.ahead(1, 0), 0));
        test("a lower rank, that came first", made, wish(0, 0), wish(2, 0), is(x -> x.ahead(2, 0), 0));
        test("the same rank, that came first", made, wish(3, 0), wish(1, 0), is(x -> x.ahead(1, 0), 1), is(x -> x.ahead(3, 0), 0));
        test("higher wishes for another book", made, wish(2, 1), wish(1, 1), wish(0, 0), is(x -> x.ahead(0, 0), 0));
        test("whoever may have it", made, wish(2, 0), wish(0, 0), make(x -> x.secret(0, 100, 1)), is(x -> x.ahead(0, 0), 1));
        test("whoever has two copies", house(3), reader(2), reader(0), wish(0, 0), wish(0, 1), pass(1), wish(0, 2), wish(1, 2), is(x -> x.ahead(1, 2), 1));
        test("a wish that is gone", made, wish(2, 0), wish(0, 0), pass(1), is(x -> x.ahead(2, 0), -1), is(x -> x.ahead(0, 0), 0));
        test("a wish that is gone, of a higher rank, that came last", made, wish(0, 0), wish(2, 0), pass(1), is(x -> x.ahead(0, 0), 0));
        test("five ahead of the sixth", house(1), times(6, reader(1)), wish(5, 0), wish(4, 0), wish(3, 0), wish(2, 0), wish(1, 0), wish(0, 0), is(x -> x.ahead(0, 0), 5),
            is(x -> x.ahead(5, 0), 0));
    }

    // ---- promise 37

    private static void late() {
        promise(37);
        for (int reader : new int[] {-1, 1, 6, LEAST, MOST}) {
            test("the reader " + reader, lent(), no(x -> x.late(reader), BOUNDS), is(x -> x.late(0), 0));
        }
        test("no copies", reader(0), is(x -> x.late(0), 0));
        test("a day before it is due", lent(), pass(19), is(x -> x.late(0), 0));
        test("on the day on which it is due", lent(), pass(20), is(x -> x.late(0), 0));
        test("one day late", lent(), pass(21), is(x -> x.late(0), 1));
        test("on the last day", lent(), pass(999), is(x -> x.late(0), 979));
        test("given back on the day on which it was due", lent(), pass(20), giveBack(0, -1), pass(30), is(x -> x.late(0), 0));
        test("given back one day late, asked later", lent(), pass(21), giveBack(0, -1), pass(30), is(x -> x.late(0), 1));
        test("given back early gains nothing", house(2), reader(0), wish(0, 0), wish(0, 1), pass(1), giveBack(0, -1), pass(22), is(x -> x.late(0), 2));
        test("two copies together", house(2), reader(0), wish(0, 0), wish(0, 1), pass(24), is(x -> x.late(0), 6));
        test("one that the reader had, one that the reader has", house(2), reader(0), wish(0, 0), pass(1), wish(0, 1), pass(23), giveBack(0, -1), is(x -> x.late(0), 3 + 2),
            pass(1), is(x -> x.late(0), 3 + 3));
        test("the same copy twice", lent(), pass(22), giveBack(0, -1), wish(0, 0), pass(1), pass(25), is(x -> x.late(0), 2 + 5));
        test("a copy that another reader had", house(1), times(2, reader(0)), wish(0, 0), pass(23), giveBack(0, -1), wish(1, 0), pass(1), is(x -> x.late(0), 2),
            is(x -> x.late(1), 0), pass(21), is(x -> x.late(0), 2), is(x -> x.late(1), 1));
    }
}
