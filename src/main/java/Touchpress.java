/**
 * A house of books for fingers. What each method promises is told in DOC.md, as numbered promises; the
 * classes inside hold the parts of the house, this one looks at what a call was given.
 */
public final class Touchpress {
    public static final int NONE = -1;
    public static final int ANY = 0, WHOLE = 1, BEGINNING = 2, MIDDLE = 3, END = 4;

    private static final int STRESS = 40, GREAT = 32, LETTERS = 48, NUMBERS = 60, HYPHEN = 36;
    private static final int COMMA = 2, SEMICOLON = 6, QUESTION = 38, POINT = 50;
    private static final int[] LETTER_CELLS = {
        1, 3, 9, 25, 17, 11, 27, 19, 10, 26, 5, 7, 13, 29, 21, 15, 31, 23, 14, 30, 37, 39, 58, 45, 61, 53
    };

    private static final int MOST_CODES = 3, MOST_DIVISIONS = 12, MOST_BOOKS = 4, MOST_COPIES = 20, MOST_READERS = 6;
    private static final int EMBOSSERS = 3, PINS = 6, NEW_PIN = 1000;
    private static final int LAST_DAY = 1000, LENDING_DAYS = 20, MOST_LENT = 2, TOO_HURT = 2;

    private final Tape tape = new Tape();
    private final Code[] codes = new Code[MOST_CODES];
    private int codeCount;
    private final Division[] divisions = new Division[MOST_DIVISIONS];
    private int divisionCount;
    private final Book[] books = new Book[MOST_BOOKS];
    private int bookCount;
    private final int[][] pins = new int[EMBOSSERS][PINS];
    private final Copy[] copies = new Copy[MOST_COPIES];
    private int copyCount;
    private final Reader[] readers = new Reader[MOST_READERS];
    private int readerCount;
    private final Wishes wishes = new Wishes();
    private int today;

    // Rows that every call uses again, so that asking makes no objects.
    private final Spelling spelled = new Spelling();
    private final Writing written = new Writing();
    private final Formula formula = new Formula();
    private final Formula formulaRead = new Formula();

    public Touchpress() {
        for (int embosser = 0; embosser < EMBOSSERS; embosser++) {
            for (int pin = 0; pin < PINS; pin++) {
                pins[embosser][pin] = NEW_PIN;
            }
        }
    }

    // ---- the tape, codes

    public int type(long characters, int n) throws IllegalArgumentException, IllegalStateException {
        if (n < 1 || n > 8) {
            throw new IllegalArgumentException("n is out of range");
        }
        for (int i = 0; i < n; i++) {
            if (!Tape.isAllowed(characterOf(characters, i))) {
                throw new IllegalArgumentException("a character cannot be on the tape");
            }
        }
        if (tape.length + n > Tape.ROOM) {
            throw new IllegalStateException("the tape is too short");
        }
        for (int i = 0; i < n; i++) {
            tape.append(characterOf(characters, i));
        }
        return tape.length;
    }

    public int wipe() {
        int length = tape.length;
        tape.length = 0;
        return length;
    }

    public int fault() {
        return tape.faultAsText();
    }

    public int code() throws IllegalStateException {
        if (codeCount >= MOST_CODES) {
            throw new IllegalStateException("there are codes enough");
        }
        codes[codeCount] = new Code();
        codeCount++;
        return codeCount - 1;
    }

    public int contraction(int code, int grade, int place, int first, int second)
            throws IndexOutOfBoundsException, IllegalArgumentException, IllegalStateException {
        Code told = codeOf(code);
        if (!tape.isSmallLetters(Contraction.FEWEST, Contraction.MOST)) {
            throw new IllegalArgumentException("the tape is not 2 to 6 small letters");
        }
        if (grade < 1 || grade > 3 || place < ANY || place > END) {
            throw new IllegalArgumentException("grade or place is out of range");
        }
        if (!canBeContracted(first) || second != 0 && !canBeContracted(second)) {
            throw new IllegalArgumentException("no cell for a contraction");
        }
        if (told.count >= Code.MOST || hasWordsOfCode(told)) {
            throw new IllegalStateException("the code takes no contraction any more");
        }
        Contraction made = new Contraction(grade, place, first, second);
        for (int i = 0; i < tape.length && i < Contraction.MOST; i++) {
            made.append(tape.characters[i] - 'a');
        }
        tape.length = 0;
        return told.append(made);
    }

    public int division() throws IllegalArgumentException, IllegalStateException {
        if (!tape.isDivision()) {
            throw new IllegalArgumentException("the tape is no divided word");
        }
        Division made = new Division();
        tape.divide(made);
        if (divisionCount >= MOST_DIVISIONS || divisionOf(made.letters, made.count) != null || hasWordsAtAll()) {
            throw new IllegalStateException("the word cannot be divided any more");
        }
        divisions[divisionCount] = made;
        divisionCount++;
        tape.length = 0;
        return made.count;
    }

    // ---- one word

    public int size(int code, int grade)
            throws IndexOutOfBoundsException, IllegalArgumentException, IllegalStateException {
        writeTape(code, grade);
        return written.length;
    }

    public int cell(int code, int grade, int place)
            throws IndexOutOfBoundsException, IllegalArgumentException, IllegalStateException {
        if (place < 0) {
            throw new IndexOutOfBoundsException("the place is below 0");
        }
        writeTape(code, grade);
        return written.cellOrNone(place);
    }

    public boolean isMarked(int code, int grade)
            throws IndexOutOfBoundsException, IllegalArgumentException, IllegalStateException {
        writeTape(code, grade);
        return written.marked;
    }

    public int least(int code, int grade)
            throws IndexOutOfBoundsException, IllegalArgumentException, IllegalStateException {
        Code told = codeOf(code);
        spellLetters(grade);
        return told.fewestCells(spelled, divisionOf(spelled.signs, spelled.count), grade);
    }

    public long ways(int code, int grade)
            throws IndexOutOfBoundsException, IllegalArgumentException, IllegalStateException {
        Code told = codeOf(code);
        spellLetters(grade);
        return told.countRows(spelled, divisionOf(spelled.signs, spelled.count), grade);
    }

    public long readings(int code, int grade)
            throws IndexOutOfBoundsException, IllegalArgumentException, IllegalStateException {
        Code told = codeOf(code);
        spellLetters(grade);
        written.clear();
        told.contract(spelled, divisionOf(spelled.signs, spelled.count), grade, written);
        return told.countReadings(written, grade);
    }

    // ---- formulas

    public int formulaFault() {
        return tape.faultAsFormula();
    }

    public int formulaCells(int which) throws IllegalArgumentException, IllegalStateException {
        checkWhich(which);
        writeFormula(which);
        return formula.cellCount;
    }

    public int formulaCell(int which, int place)
            throws IllegalArgumentException, IndexOutOfBoundsException, IllegalStateException {
        checkWhich(which);
        if (place < 0) {
            throw new IndexOutOfBoundsException("the place is below 0");
        }
        writeFormula(which);
        return formula.cellOrNone(place);
    }

    public boolean isReadBack(int which) throws IllegalArgumentException, IllegalStateException {
        checkWhich(which);
        writeFormula(which);
        return formulaRead.readCellsOf(formula, which == 1) && formulaRead.isSameTree(formula);
    }

    // ---- books, pages

    public int book(int code, int grade, int width, int height, boolean isBoth)
            throws IndexOutOfBoundsException, IllegalArgumentException, IllegalStateException {
        Code told = codeOf(code);
        checkGrade(grade);
        if (width < Book.NARROWEST || width > Book.WIDEST || height < Book.LOWEST || height > Book.HIGHEST) {
            throw new IllegalArgumentException("width or height is out of range");
        }
        if (bookCount >= MOST_BOOKS) {
            throw new IllegalStateException("there are books enough");
        }
        books[bookCount] = new Book(code, told, grade, width, height, isBoth);
        bookCount++;
        return bookCount - 1;
    }

    public int add(int book) throws IndexOutOfBoundsException, IllegalArgumentException, IllegalStateException {
        Book told = bookOf(book);
        if (tape.faultAsText() != NONE) {
            throw new IllegalArgumentException("the tape is no text");
        }
        if (told.count + tape.countWords() > Book.MOST_WORDS || told.copies > 0) {
            throw new IllegalStateException("the book takes these words no more");
        }
        int words = tape.countWords();
        char between = '/';
        int at = 0;
        for (int i = 0; i < words; i++) {
            BookWord added = new BookWord();
            at = tape.spell(at, added.spelling);
            told.append(added, divisionOfWord(added.spelling), between);
            between = at < tape.length ? tape.characters[at] : ' ';
            at++;
        }
        tape.length = 0;
        return told.count;
    }

    public int word(int book, int word, int what) throws IndexOutOfBoundsException, IllegalArgumentException {
        Book told = bookOf(book);
        if (word < 0 || word >= told.count) {
            throw new IndexOutOfBoundsException("no such word");
        }
        BookWord asked = told.words[word];
        switch (what) {
            case 0: return asked.writing.length;
            case 1: return asked.writing.marked ? 1 : 0;
            case 2: return asked.page;
            case 3: return asked.line;
            case 4: return asked.place;
            case 5: return asked.partsThere;
            case 6: return asked.printPage;
            case 7: return asked.writing.contractions;
            default: throw new IllegalArgumentException("what is out of range");
        }
    }

    public int ofBook(int book, int what) throws IndexOutOfBoundsException, IllegalArgumentException {
        Book told = bookOf(book);
        switch (what) {
            case 0: return told.count;
            case 1: return told.pages;
            case 2: return told.lines;
            case 3: return told.printPage;
            case 4: return told.dots;
            case 5: return told.copies;
            default: throw new IllegalArgumentException("what is out of range");
        }
    }

    public int at(int book, int page, int line, int place) throws IndexOutOfBoundsException {
        Book told = bookOf(book);
        checkPlace(told, page, line, place);
        return told.cellAt(page, line, place);
    }

    // ---- embossers, copies

    public int renew(int embosser, int pin, int dots) throws IndexOutOfBoundsException, IllegalArgumentException {
        if (embosser < 0 || embosser >= EMBOSSERS || pin < 0 || pin >= PINS) {
            throw new IndexOutOfBoundsException("no such embosser or pin");
        }
        if (dots < 1 || dots > 100000) {
            throw new IllegalArgumentException("dots is out of range");
        }
        int old = pins[embosser][pin];
        pins[embosser][pin] = dots;
        return old;
    }

    public int emboss(int embosser, int book) throws IndexOutOfBoundsException, IllegalStateException {
        if (embosser < 0 || embosser >= EMBOSSERS) {
            throw new IndexOutOfBoundsException("no such embosser");
        }
        Book told = bookOf(book);
        if (told.count == 0 || copyCount >= MOST_COPIES) {
            throw new IllegalStateException("no words, or copies enough");
        }
        Copy made = new Copy(book, told);
        made.raise(pins[embosser]);
        told.copies++;
        copies[copyCount] = made;
        copyCount++;
        return copyCount - 1;
    }

    public int felt(int copy, int page, int line, int place) throws IndexOutOfBoundsException {
        Copy told = copyOf(copy);
        checkPlace(told.book, page, line, place);
        return told.cellAt(page, line, place);
    }

    public int ofCopy(int copy, int what) throws IndexOutOfBoundsException, IllegalArgumentException {
        Copy told = copyOf(copy);
        switch (what) {
            case 0: return told.bookNumber;
            case 1: return told.missing;
            case 2: return countMisread(told);
            case 3: return told.hurtPages;
            case 4: return told.reader;
            case 5: return told.due;
            case 6: return told.sent;
            default: throw new IllegalArgumentException("what is out of range");
        }
    }

    public int sheets() {
        int sum = 0;
        for (int i = 0; i < copyCount; i++) {
            sum += copies[i].countSheets();
        }
        return sum;
    }

    // ---- readers, post

    public int reader(int rank) throws IllegalArgumentException, IllegalStateException {
        if (rank < 0 || rank > 2) {
            throw new IllegalArgumentException("rank is out of range");
        }
        if (readerCount >= MOST_READERS) {
            throw new IllegalStateException("there are readers enough");
        }
        readers[readerCount] = new Reader(rank);
        readerCount++;
        return readerCount - 1;
    }

    public int teach(int reader, int code, int contraction) throws IndexOutOfBoundsException {
        Reader told = readerOf(reader);
        Code learnt = codeOf(code);
        if (contraction < 0 || contraction >= learnt.count) {
            throw new IndexOutOfBoundsException("no such contraction");
        }
        told.known[code] |= 1 << contraction;
        return Integer.bitCount(told.known[code]);
    }

    public int unknown(int reader, int book) throws IndexOutOfBoundsException {
        return countUnknown(readerOf(reader), bookOf(book));
    }

    public int wish(int reader, int book) throws IndexOutOfBoundsException, IllegalStateException {
        if (countUnknown(readerOf(reader), bookOf(book)) > 0) {
            throw new IllegalStateException("there are words that the reader cannot read");
        }
        if (wishes.find(reader, book) != NONE || hasCopyOf(reader, book) || wishes.count >= Wishes.MOST) {
            throw new IllegalStateException("no such wish can be taken");
        }
        wishes.append(reader, book);
        return wishes.countFor(book);
    }

    public int secret(int book, int day, int readers) throws IndexOutOfBoundsException, IllegalArgumentException {
        Book told = bookOf(book);
        if (day < 0 || day > LAST_DAY || readers < 0 || readers > 63) {
            throw new IllegalArgumentException("day or readers is out of range");
        }
        int old = told.secretBefore;
        told.secretBefore = day;
        told.confidants = readers;
        return old;
    }

    public int pass(int days) throws IllegalArgumentException, IllegalStateException {
        if (days < 1 || days > 100) {
            throw new IllegalArgumentException("days is out of range");
        }
        if (today + days > LAST_DAY) {
            throw new IllegalStateException("the day would be above 1000");
        }
        int sent = 0;
        for (int i = 0; i < days; i++) {
            today++;
            sent += sendCopies();
        }
        return sent;
    }

    public int day() {
        return today;
    }

    public int giveBack(int copy, int hurt) throws IndexOutOfBoundsException, IllegalStateException {
        Copy told = copyOf(copy);
        if (hurt < NONE || hurt >= told.hurt.length) {
            throw new IndexOutOfBoundsException("no such page");
        }
        if (told.reader == NONE) {
            throw new IllegalStateException("the copy is in the house");
        }
        int daysLate = told.daysLate(today);
        Reader giver = readerOf(told.reader);
        giver.lateBefore += daysLate;
        giver.lent--;
        told.comeHome();
        if (hurt != NONE) {
            told.hurtPage(hurt);
        }
        return daysLate;
    }

    public int ahead(int reader, int book) throws IndexOutOfBoundsException {
        int rank = readerOf(reader).rank;
        bookOf(book);
        int own = wishes.find(reader, book);
        if (own == NONE) {
            return NONE;
        }
        int sum = 0;
        for (int i = 0; i < wishes.count; i++) {
            int other = readerOf(wishes.readers[i]).rank;
            if (wishes.books[i] == book && (other > rank || other == rank && i < own)) {
                sum++;
            }
        }
        return sum;
    }

    public int late(int reader) throws IndexOutOfBoundsException {
        int sum = readerOf(reader).lateBefore;
        for (int i = 0; i < copyCount; i++) {
            if (copies[i].reader == reader) {
                sum += copies[i].daysLate(today);
            }
        }
        return sum;
    }

    // ---- what calls are given

    private static char characterOf(long characters, int place) {
        return (char) (characters >>> 8 * place & 255);
    }

    private Code codeOf(int code) {
        if (code < 0 || code >= codeCount) {
            throw new IndexOutOfBoundsException("no such code");
        }
        return codes[code];
    }

    private Book bookOf(int book) {
        if (book < 0 || book >= bookCount) {
            throw new IndexOutOfBoundsException("no such book");
        }
        return books[book];
    }

    private Copy copyOf(int copy) {
        if (copy < 0 || copy >= copyCount) {
            throw new IndexOutOfBoundsException("no such copy");
        }
        return copies[copy];
    }

    private Reader readerOf(int reader) {
        if (reader < 0 || reader >= readerCount) {
            throw new IndexOutOfBoundsException("no such reader");
        }
        return readers[reader];
    }

    private static void checkGrade(int grade) {
        if (grade < 0 || grade > 3) {
            throw new IllegalArgumentException("grade is out of range");
        }
    }

    private static void checkWhich(int which) {
        if (which < 0 || which > 1) {
            throw new IllegalArgumentException("which is out of range");
        }
    }

    private static void checkPlace(Book book, int page, int line, int place) {
        if (page < 0 || page >= book.pages) {
            throw new IndexOutOfBoundsException("no such page");
        }
        if (line < 0 || line >= book.height || place < 0 || place >= book.width) {
            throw new IndexOutOfBoundsException("no such line or place");
        }
    }

    private void spellOneWord() {
        if (tape.faultAsText() != NONE || tape.countWords() != 1) {
            throw new IllegalStateException("the tape is not a text of one word");
        }
        tape.spell(0, spelled);
    }

    private void spellLetters(int grade) {
        checkGrade(grade);
        spellOneWord();
        if (spelled.isDigits) {
            throw new IllegalStateException("the word has no letters");
        }
    }

    private void writeTape(int code, int grade) {
        Code told = codeOf(code);
        checkGrade(grade);
        spellOneWord();
        told.write(spelled, divisionOfWord(spelled), grade, written);
    }

    private void writeFormula(int which) {
        if (tape.faultAsFormula() != NONE) {
            throw new IllegalStateException("the tape is no formula");
        }
        formula.readTape(tape);
        formula.write(which == 1);
    }

    // ---- what the house knows

    private Division divisionOf(int[] letters, int count) {
        for (int i = 0; i < divisionCount; i++) {
            if (areSame(divisions[i].letters, divisions[i].count, letters, count)) {
                return divisions[i];
            }
        }
        return null;
    }

    private Division divisionOfWord(Spelling word) {
        return word.isDigits ? null : divisionOf(word.signs, word.count);
    }

    private boolean hasWordsOfCode(Code code) {
        for (int i = 0; i < bookCount; i++) {
            if (books[i].code == code && books[i].count > 0) {
                return true;
            }
        }
        return false;
    }

    private boolean hasWordsAtAll() {
        for (int i = 0; i < bookCount; i++) {
            if (books[i].count > 0) {
                return true;
            }
        }
        return false;
    }

    private static int countUnknown(Reader reader, Book book) {
        int known = book.codeNumber < reader.known.length ? reader.known[book.codeNumber] : 0;
        int sum = 0;
        for (int i = 0; i < book.count; i++) {
            if ((book.words[i].writing.contractions & ~known) != 0) {
                sum++;
            }
        }
        return sum;
    }

    private boolean hasCopyOf(int reader, int book) {
        for (int i = 0; i < copyCount; i++) {
            if (copies[i].reader == reader && copies[i].bookNumber == book) {
                return true;
            }
        }
        return false;
    }

    private int countMisread(Copy copy) {
        int sum = 0;
        for (int i = 0; i < copy.book.count; i++) {
            BookWord asked = copy.book.words[i];
            copy.gather(asked, written);
            if (!copy.book.code.readWord(written, copy.book.grade, spelled) || !spelled.isSameWord(asked.spelling)) {
                sum++;
            }
        }
        return sum;
    }

    private int sendCopies() {
        int sum = 0;
        for (int i = 0; i < copyCount; i++) {
            Copy copy = copies[i];
            int wish = copy.reader == NONE && copy.hurtPages < TOO_HURT ? bestWish(copy) : NONE;
            if (wish != NONE) {
                copy.send(wishes.readers[wish], today + LENDING_DAYS);
                readerOf(copy.reader).lent++;
                wishes.remove(wish);
                sum++;
            }
        }
        return sum;
    }

    private int bestWish(Copy copy) {
        int best = NONE;
        int bestRank = NONE;
        for (int i = 0; i < wishes.count; i++) {
            int reader = wishes.readers[i];
            boolean can = wishes.books[i] == copy.bookNumber && copy.book.isOpenTo(reader, today)
                    && readerOf(reader).lent < MOST_LENT;
            if (can && readerOf(reader).rank > bestRank) {
                best = i;
                bestRank = readerOf(reader).rank;
            }
        }
        return best;
    }

    // ---- cells, letters

    private static int letterCell(int letter) {
        return letter >= 0 && letter < LETTER_CELLS.length ? LETTER_CELLS[letter] : 0;
    }

    /** The letter of a cell, from 0 on; NONE if it is the cell of no letter. */
    private static int letterOf(int cell) {
        for (int i = 0; i < LETTER_CELLS.length; i++) {
            if (LETTER_CELLS[i] == cell) {
                return i;
            }
        }
        return NONE;
    }

    private static int digitCell(int digit) {
        return letterCell(digit == 0 ? 9 : digit - 1);
    }

    private static int digitOf(int cell) {
        int letter = letterOf(cell);
        return letter > 9 ? NONE : letter == 9 ? 0 : letter == NONE ? NONE : letter + 1;
    }

    private static boolean isMarkCell(int cell) {
        return cell == COMMA || cell == SEMICOLON || cell == QUESTION || cell == POINT;
    }

    private static boolean isSignCell(int cell) {
        return cell == STRESS || cell == GREAT || cell == LETTERS || cell == NUMBERS || cell == HYPHEN;
    }

    private static boolean canBeContracted(int cell) {
        return cell > 0 && cell < 64 && !isSignCell(cell) && !isMarkCell(cell);
    }

    private static boolean areSame(int[] one, int oneCount, int[] other, int otherCount) {
        if (oneCount != otherCount || oneCount > one.length || oneCount > other.length) {
            return false;
        }
        for (int i = 0; i < oneCount; i++) {
            if (one[i] != other[i]) {
                return false;
            }
        }
        return true;
    }

    /** The tape, and what its characters are as a text or as a formula. */
    private static final class Tape {
        static final int ROOM = 60;
        private static final int OTHER = 0, STAR = 1, SMALL = 2, BIG = 3, DIGIT = 4, MARK = 5, BETWEEN = 6;
        // What stands last: nothing of a word yet, its star, its letters or digits, its mark.
        private static final int AT_WORD = 0, AT_STAR = 1, IN_SMALL = 2, AT_BIG = 3, IN_BIG = 4, IN_DIGITS = 5,
            AT_MARK = 6;

        final char[] characters = new char[ROOM];
        int length;

        static boolean isAllowed(char c) {
            return kindOf(c) != OTHER || c == '+' || c == '-' || c == '^' || c == '(' || c == ')';
        }

        static boolean isSmallLetter(char c) {
            return c >= 'a' && c <= 'z';
        }

        static boolean isDigit(char c) {
            return c >= '0' && c <= '9';
        }

        private static int kindOf(char c) {
            if (isSmallLetter(c)) {
                return SMALL;
            }
            if (c >= 'A' && c <= 'Z') {
                return BIG;
            }
            if (isDigit(c)) {
                return DIGIT;
            }
            if (c == ' ' || c == '/' || c == '|') {
                return BETWEEN;
            }
            return c == '*' ? STAR : cellOfMark(c) != 0 ? MARK : OTHER;
        }

        /** The cell of a mark; 0 if the character is none. */
        private static int cellOfMark(char c) {
            return c == ',' ? COMMA : c == ';' ? SEMICOLON : c == '?' ? QUESTION : c == '.' ? POINT : 0;
        }

        void append(char c) {
            if (length < ROOM) {
                characters[length] = c;
                length++;
            }
        }

        int faultAsText() {
            int state = AT_WORD;
            int run = 0;
            for (int i = 0; i < length; i++) {
                state = nextState(state, run, kindOf(characters[i]));
                if (state == NONE) {
                    return i;
                }
                run = state == AT_WORD || state == AT_STAR || state == AT_MARK ? 0 : run + 1;
            }
            return state == AT_WORD || state == AT_STAR ? length : NONE;
        }

        /** The state behind one more character of a kind; NONE if no text goes on so. */
        private static int nextState(int state, int run, int kind) {
            if (state == AT_WORD || state == AT_STAR) {
                switch (kind) {
                    case STAR: return state == AT_WORD ? AT_STAR : NONE;
                    case SMALL: return IN_SMALL;
                    case BIG: return AT_BIG;
                    case DIGIT: return IN_DIGITS;
                    default: return NONE;
                }
            }
            boolean isRoomForLetter = run < Spelling.MOST_LETTERS;
            switch (kind) {
                case SMALL: return (state == IN_SMALL || state == AT_BIG) && isRoomForLetter ? IN_SMALL : NONE;
                case BIG: return (state == AT_BIG || state == IN_BIG) && isRoomForLetter ? IN_BIG : NONE;
                case DIGIT: return state == IN_DIGITS && run < Spelling.MOST_DIGITS ? IN_DIGITS : NONE;
                case MARK: return state != AT_MARK ? AT_MARK : NONE;
                case BETWEEN: return AT_WORD;
                default: return NONE;
            }
        }

        /** How many words a tape has that is a text. */
        int countWords() {
            int sum = 1;
            for (int i = 0; i < length; i++) {
                if (kindOf(characters[i]) == BETWEEN) {
                    sum++;
                }
            }
            return sum;
        }

        /** Spells the word that begins at a place of a text; returns the place behind it. */
        int spell(int from, Spelling word) {
            word.clear();
            for (int i = Math.max(0, from); i < length; i++) {
                char c = characters[i];
                switch (kindOf(c)) {
                    case STAR: word.hasStar = true; break;
                    case SMALL: word.append(c - 'a'); break;
                    case BIG: word.append(c - 'A'); word.bigs = Math.min(2, word.bigs + 1); break;
                    case DIGIT: word.append(c - '0'); word.isDigits = true; break;
                    case MARK: word.mark = cellOfMark(c); break;
                    default: return i;
                }
            }
            return length;
        }

        boolean isSmallLetters(int fewest, int most) {
            for (int i = 0; i < length; i++) {
                if (!isSmallLetter(characters[i])) {
                    return false;
                }
            }
            return length >= fewest && length <= most;
        }

        boolean isDivision() {
            for (int i = 0; i < length; i++) {
                if (!isSmallLetter(characters[i]) && characters[i] != ' ') {
                    return false;
                }
            }
            int words = countWords();
            return faultAsText() == NONE && words >= 2 && words <= Division.MOST_PARTS
                && length - (words - 1) <= Spelling.MOST_LETTERS;
        }

        void divide(Division into) {
            for (int i = 0; i < length; i++) {
                if (isSmallLetter(characters[i])) {
                    into.append(characters[i] - 'a');
                } else {
                    into.endPart();
                }
            }
            into.endPart();
        }

        int faultAsFormula() {
            int open = 0;
            int atoms = 0;
            int digits = 0;
            boolean isAtomDue = true;
            for (int i = 0; i < length; i++) {
                char c = characters[i];
                if (isAtomDue && c == '(') {
                    open++;
                } else if (isAtomDue && (isDigit(c) || isSmallLetter(c)) && atoms < Formula.MOST_ATOMS) {
                    isAtomDue = false;
                    atoms++;
                    digits = isDigit(c) ? 1 : 0;
                } else if (!isAtomDue && isDigit(c) && digits > 0 && digits < Formula.MOST_DIGITS) {
                    digits++;
                } else if (!isAtomDue && c == ')' && open > 0) {
                    open--;
                    digits = 0;
                } else if (!isAtomDue && (c == '+' || c == '-' || c == '.' || c == '/' || c == '^')) {
                    isAtomDue = true;
                } else {
                    return i;
                }
            }
            return isAtomDue || open > 0 ? length : NONE;
        }
    }

    /** A word as it is spelled: star, letters (as small ones, from 0 on) or digits, mark. */
    private static final class Spelling {
        static final int MOST_LETTERS = 10, MOST_DIGITS = 6;

        final int[] signs = new int[MOST_LETTERS];
        int count;
        boolean hasStar;
        boolean isDigits;
        /** 0 if no letter is great, 1 if the first one is, 2 if all are. */
        int bigs;
        /** The cell of its mark; 0 without one. */
        int mark;

        void clear() {
            count = 0;
            hasStar = false;
            isDigits = false;
            bigs = 0;
            mark = 0;
        }

        /** Appends a letter or digit; false if no word has so many. */
        boolean append(int sign) {
            if (count >= signs.length) {
                return false;
            }
            signs[count] = sign;
            count++;
            return true;
        }

        boolean appendLetter(int letter) {
            return letter != NONE && append(letter);
        }

        private int countBigLetters() {
            return isDigits ? 0 : bigs == 2 ? count : bigs;
        }

        boolean isSameWord(Spelling other) {
            return hasStar == other.hasStar && isDigits == other.isDigits && mark == other.mark
                && countBigLetters() == other.countBigLetters()
                && areSame(signs, count, other.signs, other.count);
        }
    }

    /** A word as it is written: its cells, and where its parts end among them. */
    private static final class Writing {
        private static final int ROOM = 16;

        final int[] cells = new int[ROOM];
        int length;
        boolean marked;
        /** The contractions with which it is written, as bits. */
        int contractions;
        private final int[] ends = new int[Division.MOST_PARTS];
        int parts;

        void clear() {
            length = 0;
            marked = false;
            contractions = 0;
            parts = 0;
        }

        void append(int cell) {
            if (length < ROOM) {
                cells[length] = cell;
                length++;
            }
        }

        void endPart() {
            if (parts < ends.length) {
                ends[parts] = length;
                parts++;
            }
        }

        /** Forgets the letters that stand from a place on, and begins them behind the sign for letters. */
        void markFrom(int begin) {
            length = Math.max(0, Math.min(length, begin));
            contractions = 0;
            parts = 0;
            marked = true;
            append(LETTERS);
        }

        int cellOrNone(int place) {
            return place >= 0 && place < length ? cells[place] : NONE;
        }

        /** How many cells so many first parts have, signs and mark counted. */
        int lengthOfParts(int first) {
            return first < 1 ? 0 : first < parts && first <= ends.length ? ends[first - 1] : length;
        }
    }

    /** A contraction of a code. */
    private static final class Contraction {
        static final int FEWEST = 2, MOST = 6;

        private final int[] letters = new int[MOST];
        int count;
        private final int grade;
        private final int place;
        final int first;
        final int second;

        Contraction(int grade, int place, int first, int second) {
            this.grade = grade;
            this.place = place;
            this.first = first;
            this.second = second;
        }

        void append(int letter) {
            if (count < MOST) {
                letters[count] = letter;
                count++;
            }
        }

        int countCells() {
            return second == 0 ? 1 : 2;
        }

        /** Appends its letters to a word; false if no word has so many. */
        boolean spellInto(Spelling word) {
            for (int i = 0; i < count; i++) {
                if (!word.append(letters[i])) {
                    return false;
                }
            }
            return true;
        }

        private boolean fits(int from, int length, int row) {
            boolean begins = from == 0;
            boolean ends = from + length == row;
            switch (place) {
                case WHOLE: return begins && ends;
                case BEGINNING: return begins && !ends;
                case MIDDLE: return !begins && !ends;
                case END: return !begins && ends;
                default: return true;
            }
        }

        /** Whether it can stand for the letters of a word from a place on, not reaching over an end. */
        boolean standsIn(Spelling word, int from, int end, int asked) {
            if (grade > asked || from < 0 || from + count > end || end > word.count) {
                return false;
            }
            for (int i = 0; i < count; i++) {
                if (word.signs[from + i] != letters[i]) {
                    return false;
                }
            }
            return fits(from, count, word.count);
        }

        /** Whether it can be read in a row of cells, that begins and ends there, from a place on. */
        boolean isReadIn(int[] cells, int begin, int end, int from, int asked) {
            int length = countCells();
            if (grade > asked || from < 0 || from + length > end || end > cells.length) {
                return false;
            }
            if (cells[from] != first || length == 2 && cells[from + 1] != second) {
                return false;
            }
            return fits(from - begin, length, end - begin);
        }
    }

    /** A word that is divided. */
    private static final class Division {
        static final int MOST_PARTS = 4;

        final int[] letters = new int[Spelling.MOST_LETTERS];
        int count;
        private final int[] ends = new int[MOST_PARTS];
        private int parts;

        void append(int letter) {
            if (count < letters.length) {
                letters[count] = letter;
                count++;
            }
        }

        void endPart() {
            if (parts < ends.length) {
                ends[parts] = count;
                parts++;
            }
        }

        /** Where the part ends that has the letter at a place. */
        int endBehind(int place) {
            for (int i = 0; i < parts; i++) {
                if (ends[i] > place) {
                    return ends[i];
                }
            }
            return count;
        }
    }

    /** A code: its contractions, and how words are written and read with them. */
    private static final class Code {
        static final int MOST = 24;

        private final Contraction[] contractions = new Contraction[MOST];
        int count;
        /** For each place of a row, what a search has found from there to its end. */
        private final long[] found = new long[Writing.ROOM + 1];
        private final Spelling readBack = new Spelling();

        int append(Contraction made) {
            if (count < MOST) {
                contractions[count] = made;
                count++;
            }
            return count - 1;
        }

        private static int endOfPart(Spelling word, Division division, int place) {
            return division == null ? word.count : Math.min(word.count, division.endBehind(place));
        }

        /** Writes a word; the division is null if its letters are not divided. */
        void write(Spelling word, Division division, int grade, Writing into) {
            into.clear();
            if (word.hasStar) {
                into.append(STRESS);
            }
            if (word.isDigits) {
                writeDigits(word, into);
            } else {
                for (int i = 0; i < word.bigs; i++) {
                    into.append(GREAT);
                }
                int begin = into.length;
                contract(word, division, grade, into);
                if (!areReadAs(word, into, begin, grade)) {
                    into.markFrom(begin);
                    contract(word, division, NONE, into);
                }
            }
            if (word.mark != 0) {
                into.append(word.mark);
            }
        }

        private static void writeDigits(Spelling word, Writing into) {
            into.append(NUMBERS);
            for (int i = 0; i < word.count; i++) {
                into.append(digitCell(word.signs[i]));
            }
            into.endPart();
        }

        private boolean areReadAs(Spelling word, Writing row, int begin, int grade) {
            return readLetters(row, begin, row.length, grade, readBack)
                && areSame(readBack.signs, readBack.count, word.signs, word.count);
        }

        /** Writes letters from the left to the right; in the grade NONE each one stands as it is. */
        void contract(Spelling word, Division division, int grade, Writing into) {
            int from = 0;
            while (from < word.count) {
                int end = endOfPart(word, division, from);
                int best = longestFor(word, from, end, grade);
                if (best == NONE) {
                    into.append(letterCell(word.signs[from]));
                    from++;
                } else {
                    appendCells(contractions[best], into);
                    into.contractions |= 1 << best;
                    from += Math.max(1, contractions[best].count);
                }
                if (from >= end) {
                    into.endPart();
                }
            }
        }

        private static void appendCells(Contraction contraction, Writing into) {
            into.append(contraction.first);
            if (contraction.second != 0) {
                into.append(contraction.second);
            }
        }

        private int longestFor(Spelling word, int from, int end, int grade) {
            int best = NONE;
            int most = 0;
            for (int i = 0; i < count; i++) {
                if (contractions[i].count > most && contractions[i].standsIn(word, from, end, grade)) {
                    best = i;
                    most = contractions[i].count;
                }
            }
            return best;
        }

        private int longestIn(int[] cells, int begin, int end, int from, int grade) {
            int best = NONE;
            int most = 0;
            for (int i = 0; i < count; i++) {
                int length = contractions[i].countCells();
                if (length > most && contractions[i].isReadIn(cells, begin, end, from, grade)) {
                    best = i;
                    most = length;
                }
            }
            return best;
        }

        /** Reads cells as letters; false if they are not read, or as more letters than a word has. */
        private boolean readLetters(Writing row, int begin, int end, int grade, Spelling into) {
            into.count = 0;
            int from = begin;
            while (from < end) {
                int best = longestIn(row.cells, begin, end, from, grade);
                boolean isRead = best == NONE
                    ? into.appendLetter(letterOf(row.cellOrNone(from)))
                    : contractions[best].spellInto(into);
                if (!isRead) {
                    return false;
                }
                from += best == NONE ? 1 : Math.max(1, contractions[best].countCells());
            }
            return begin < end;
        }

        /** Reads a word; false if its cells are not those of one. */
        boolean readWord(Writing row, int grade, Spelling into) {
            into.clear();
            int begin = 0;
            int end = row.length;
            if (row.cellOrNone(begin) == STRESS) {
                into.hasStar = true;
                begin++;
            }
            while (into.bigs < 2 && row.cellOrNone(begin) == GREAT) {
                into.bigs++;
                begin++;
            }
            if (end - begin > 1 && isMarkCell(row.cellOrNone(end - 1))) {
                into.mark = row.cellOrNone(end - 1);
                end--;
            }
            switch (row.cellOrNone(begin)) {
                case NUMBERS: return readDigits(row, begin + 1, end, into);
                case LETTERS: return readLetters(row, begin + 1, end, NONE, into);
                default: return readLetters(row, begin, end, grade, into);
            }
        }

        private static boolean readDigits(Writing row, int begin, int end, Spelling into) {
            into.isDigits = true;
            for (int i = begin; i < end; i++) {
                int digit = digitOf(row.cellOrNone(i));
                if (digit == NONE || !into.append(digit)) {
                    return false;
                }
            }
            return begin < end;
        }

        int fewestCells(Spelling word, Division division, int grade) {
            found[word.count] = 0;
            for (int from = word.count - 1; from >= 0; from--) {
                int end = endOfPart(word, division, from);
                found[from] = found[from + 1] + 1;
                for (int i = 0; i < count; i++) {
                    Contraction contraction = contractions[i];
                    if (contraction.standsIn(word, from, end, grade)) {
                        long cells = found[from + contraction.count] + contraction.countCells();
                        found[from] = Math.min(found[from], cells);
                    }
                }
            }
            return (int) found[0];
        }

        long countRows(Spelling word, Division division, int grade) {
            found[word.count] = 1;
            for (int from = word.count - 1; from >= 0; from--) {
                int end = endOfPart(word, division, from);
                found[from] = found[from + 1];
                for (int i = 0; i < count; i++) {
                    if (contractions[i].standsIn(word, from, end, grade)) {
                        found[from] += found[from + contractions[i].count];
                    }
                }
            }
            return found[0];
        }

        /** Counts the readings of a row of cells that are all those of letters. */
        long countReadings(Writing row, int grade) {
            found[row.length] = 1;
            for (int from = row.length - 1; from >= 0; from--) {
                found[from] = letterOf(row.cells[from]) == NONE ? 0 : found[from + 1];
                for (int i = 0; i < count; i++) {
                    if (contractions[i].isReadIn(row.cells, 0, row.length, from, grade)) {
                        found[from] += found[from + contractions[i].countCells()];
                    }
                }
            }
            return found[0];
        }
    }

    /** A formula: symbols from the tape or from cells, their tree, and the cells that are written for it. */
    private static final class Formula {
        static final int MOST_ATOMS = 12, MOST_DIGITS = 4;
        // Twelve atoms of up to four digits with signs, eleven signs of up to three cells, their brackets.
        private static final int ROOM = 160, MOST_NODES = 2 * MOST_ATOMS;
        // A tape of 60 characters has no more than 29 levels.
        private static final int DEEPEST = 40;
        private static final int PLUS = 22, MINUS = 36, TIMES = 20, STROKE = 12, POWER = 34, OPEN = 35, CLOSE = 28;
        private static final int FRACTION = 55, FRACTION_END = 62, RAISE = 24, RAISE_END = 16;

        private final char[] symbols = new char[ROOM];
        private int symbolCount;
        private int next;
        private boolean isField;
        // A node is an atom, '0' for digits and 'a' for a letter, with its value, or the sign between two nodes.
        private final char[] kinds = new char[MOST_NODES];
        private final int[] values = new int[MOST_NODES];
        private final int[] lefts = new int[MOST_NODES];
        private final int[] rights = new int[MOST_NODES];
        private int nodes;
        private int root = NONE;
        private final int[] cells = new int[ROOM];
        int cellCount;

        int cellOrNone(int place) {
            return place >= 0 && place < cellCount ? cells[place] : NONE;
        }

        // ---- reading symbols as a tree

        void readTape(Tape tape) {
            symbolCount = 0;
            for (int i = 0; i < tape.length; i++) {
                appendSymbol(tape.characters[i]);
            }
            readSymbols(false);
        }

        /** Reads the cells that are written for another formula; false if they are none. */
        boolean readCellsOf(Formula other, boolean asField) {
            symbolCount = 0;
            boolean areDigits = false;
            for (int i = 0; i < other.cellCount; i++) {
                int cell = other.cells[i];
                int digit = digitOf(cell);
                int letter = letterOf(cell);
                areDigits = cell == NUMBERS || areDigits && digit != NONE;
                if (areDigits && digit != NONE) {
                    appendSymbol((char) ('0' + digit));
                } else if (letter != NONE) {
                    appendSymbol((char) ('a' + letter));
                } else {
                    appendSymbol(symbolOf(cell, asField));
                }
            }
            return readSymbols(asField);
        }

        private static char symbolOf(int cell, boolean asField) {
            switch (cell) {
                case NUMBERS: return '#';
                case OPEN: return '(';
                case CLOSE: return ')';
                case FRACTION: return asField ? '[' : ' ';
                case FRACTION_END: return asField ? ']' : ' ';
                case RAISE: return asField ? '{' : ' ';
                case RAISE_END: return asField ? '}' : ' ';
                default: return signOf(cell);
            }
        }

        private static char signOf(int cell) {
            switch (cell) {
                case PLUS: return '+';
                case MINUS: return '-';
                case TIMES: return '.';
                case STROKE: return '/';
                case POWER: return '^';
                default: return ' ';
            }
        }

        private void appendSymbol(char symbol) {
            if (symbolCount < ROOM) {
                symbols[symbolCount] = symbol;
                symbolCount++;
            }
        }

        private boolean readSymbols(boolean asField) {
            isField = asField;
            next = 0;
            nodes = 0;
            root = readSum(0);
            return root != NONE && next == symbolCount;
        }

        private char symbol() {
            return next >= 0 && next < symbolCount ? symbols[next] : ' ';
        }

        private boolean take(char due) {
            if (symbol() != due) {
                return false;
            }
            next++;
            return true;
        }

        private int readSum(int depth) {
            if (depth > DEEPEST) {
                return NONE;
            }
            int left = readProduct(depth);
            for (int i = 0; i < symbolCount && (symbol() == '+' || symbol() == '-'); i++) {
                char sign = symbol();
                next++;
                left = join(sign, left, readProduct(depth));
            }
            return left;
        }

        private int readProduct(int depth) {
            int left = readPower(depth);
            // In the field code a stroke is the line of a fraction that began ahead.
            for (int i = 0; i < symbolCount && (symbol() == '.' || symbol() == '/' && !isField); i++) {
                char sign = symbol();
                next++;
                left = join(sign, left, readPower(depth));
            }
            return left;
        }

        private int readPower(int depth) {
            if (depth > DEEPEST) {
                return NONE;
            }
            int left = readAtom(depth);
            if (!isField && take('^')) {
                return join('^', left, readPower(depth + 1));
            }
            if (isField && take('{')) {
                int right = readSum(depth + 1);
                return take('}') ? join('^', left, right) : NONE;
            }
            return left;
        }

        private int readAtom(int depth) {
            char first = symbol();
            if (Tape.isSmallLetter(first)) {
                next++;
                return appendNode('a', first - 'a', NONE, NONE);
            }
            if (take('(')) {
                int inner = readSum(depth + 1);
                return take(')') ? inner : NONE;
            }
            if (take('[')) {
                int above = readSum(depth + 1);
                boolean hasLine = take('/');
                int below = hasLine ? readSum(depth + 1) : NONE;
                return take(']') ? join('/', above, below) : NONE;
            }
            take('#');
            return readNumber();
        }

        private int readNumber() {
            // The 1 ahead tells how many zeros a number begins with.
            int value = 1;
            for (int i = 0; i < MOST_DIGITS && Tape.isDigit(symbol()); i++) {
                value = 10 * value + (symbol() - '0');
                next++;
            }
            return value == 1 ? NONE : appendNode('0', value, NONE, NONE);
        }

        private int join(char sign, int left, int right) {
            return left == NONE || right == NONE ? NONE : appendNode(sign, 0, left, right);
        }

        private int appendNode(char kind, int value, int left, int right) {
            if (nodes >= MOST_NODES) {
                return NONE;
            }
            kinds[nodes] = kind;
            values[nodes] = value;
            lefts[nodes] = left;
            rights[nodes] = right;
            nodes++;
            return nodes - 1;
        }

        boolean isSameTree(Formula other) {
            return areSameNodes(root, other, other.root, 0);
        }

        private boolean areSameNodes(int own, Formula other, int its, int depth) {
            if (own < 0 || own >= nodes || its < 0 || its >= other.nodes || depth > DEEPEST) {
                return false;
            }
            if (kinds[own] != other.kinds[its] || values[own] != other.values[its]) {
                return false;
            }
            return isAtom(own) || areSameNodes(lefts[own], other, other.lefts[its], depth + 1)
                && areSameNodes(rights[own], other, other.rights[its], depth + 1);
        }

        private boolean isAtom(int node) {
            return node >= 0 && node < nodes && (kinds[node] == '0' || kinds[node] == 'a');
        }

        // ---- writing the tree

        void write(boolean asField) {
            cellCount = 0;
            isField = asField;
            writeNode(root, 0);
        }

        private void appendCell(int cell) {
            if (cellCount < ROOM) {
                cells[cellCount] = cell;
                cellCount++;
            }
        }

        private void writeNode(int node, int depth) {
            if (node < 0 || node >= nodes || depth > DEEPEST) {
                return;
            }
            char kind = kinds[node];
            if (isAtom(node)) {
                writeAtom(kind, values[node]);
            } else if (isField && kind == '/') {
                appendCell(FRACTION);
                writeNode(lefts[node], depth + 1);
                appendCell(STROKE);
                writeNode(rights[node], depth + 1);
                appendCell(FRACTION_END);
            } else if (isField && kind == '^') {
                writePart(lefts[node], needsBrackets(kind, lefts[node], false), depth);
                appendCell(RAISE);
                writeNode(rights[node], depth + 1);
                appendCell(RAISE_END);
            } else {
                writePart(lefts[node], needsBrackets(kind, lefts[node], false), depth);
                appendCell(cellOfSign(kind));
                writePart(rights[node], needsBrackets(kind, rights[node], true), depth);
            }
        }

        private void writePart(int node, boolean inBrackets, int depth) {
            if (inBrackets) {
                appendCell(OPEN);
            }
            writeNode(node, depth + 1);
            if (inBrackets) {
                appendCell(CLOSE);
            }
        }

        private void writeAtom(char kind, int value) {
            if (kind == 'a') {
                appendCell(letterCell(value));
                return;
            }
            appendCell(NUMBERS);
            int unit = 1;
            for (int i = 0; i < MOST_DIGITS && unit <= value / 10; i++) {
                unit *= 10;
            }
            for (unit /= 10; unit > 0; unit /= 10) {
                appendCell(digitCell(value / unit % 10));
            }
        }

        private static int cellOfSign(char sign) {
            return sign == '+' ? PLUS : sign == '-' ? MINUS : sign == '.' ? TIMES : sign == '/' ? STROKE : POWER;
        }

        /** 0 for a sum, 1 for a product, 2 for a power. */
        private static int rankOf(char sign) {
            return sign == '+' || sign == '-' ? 0 : sign == '^' ? 2 : 1;
        }

        private boolean needsBrackets(char sign, int part, boolean isRight) {
            if (part < 0 || part >= nodes || isAtom(part) || isField && kinds[part] == '/') {
                return false;
            }
            int outer = rankOf(sign);
            int inner = rankOf(kinds[part]);
            // Sums and products are read from the left, powers from the right.
            return inner < outer || inner == outer && isRight == (outer < 2);
        }
    }

    /** A word of a book: how it is spelled, written, and where it stands. */
    private static final class BookWord {
        final Spelling spelling = new Spelling();
        final Writing writing = new Writing();
        int page;
        int line;
        int place;
        int partsThere;
        int printPage;
    }

    /** A book: its words, and its pages as they are laid out with each word that comes. */
    private static final class Book {
        static final int MOST_WORDS = 80, NARROWEST = 18, WIDEST = 40, LOWEST = 3, HIGHEST = 25;
        // A word takes a line at most, that of its print page and an empty one.
        private static final int MOST_LINES = 3 * MOST_WORDS;

        final int codeNumber;
        final Code code;
        final int grade;
        final int width;
        final int height;
        final boolean isBoth;
        final BookWord[] words = new BookWord[MOST_WORDS];
        int count;
        /** The cells of all pages, page by page, line by line, heads counted. */
        private final byte[] cells;
        int pages;
        int lines;
        int printPage = 1;
        int dots;
        int copies;
        int secretBefore;
        /** The readers who may have it while it is secret, as bits. */
        int confidants;
        private int line;
        private int place;

        Book(int codeNumber, Code code, int grade, int width, int height, boolean isBoth) {
            this.codeNumber = codeNumber;
            this.code = code;
            this.grade = grade;
            this.width = width;
            this.height = height;
            this.isBoth = isBoth;
            int mostPages = MOST_LINES / Math.max(1, height - 1) + 1;
            cells = new byte[Math.max(0, mostPages * height * width)];
        }

        boolean isOpenTo(int reader, int day) {
            return day >= secretBefore || (confidants >> reader & 1) == 1;
        }

        int countCells() {
            return Math.min(pages * height * width, cells.length);
        }

        int indexOf(int page, int line, int place) {
            return (page * height + line) * width + place;
        }

        int cellAt(int page, int line, int place) {
            return cellAtIndex(indexOf(page, line, place));
        }

        int cellAtIndex(int index) {
            return index >= 0 && index < cells.length ? cells[index] : 0;
        }

        private void put(int cell) {
            int index = indexOf(pages - 1, line, place);
            if (index >= 0 && index < cells.length) {
                cells[index] = (byte) cell;
                dots += Integer.bitCount(cell);
            }
            place++;
        }

        private void putNumber(int number) {
            put(NUMBERS);
            int unit = 1;
            for (int i = 0; i < 4 && unit <= number / 10; i++) {
                unit *= 10;
            }
            for (; unit > 0; unit /= 10) {
                put(digitCell(number / unit % 10));
            }
        }

        private static int lengthOfNumber(int number) {
            return number < 10 ? 2 : number < 100 ? 3 : 4;
        }

        /** Appends a word behind a blank, stroke or bar; the division is null if its letters are not divided. */
        void append(BookWord word, Division division, char between) {
            if (count >= MOST_WORDS) {
                return;
            }
            code.write(word.spelling, division, grade, word.writing);
            int there = between == ' ' ? partsWithRoom(word.writing) : 0;
            if (there > 0) {
                place++;
            } else {
                if (between == '|') {
                    turnPrintPage();
                }
                beginLine();
                place = between == '/' ? 2 : 0;
                there = word.writing.parts;
            }
            tellPlace(word, there);
            putWord(word.writing, there);
            words[count] = word;
            count++;
        }

        /** How many first parts of a word have room behind a blank in this line; 0 if none has. */
        private int partsWithRoom(Writing word) {
            int room = width - place - 1;
            if (word.length <= room) {
                return word.parts;
            }
            for (int there = word.parts - 1; there > 0; there--) {
                if (word.lengthOfParts(there) + 1 <= room) {
                    return there;
                }
            }
            return 0;
        }

        private void turnPrintPage() {
            if (pages > 0 && line + 1 == height - 1) {
                beginLine();
            }
            printPage++;
            beginLine();
            int hyphens = width - lengthOfNumber(printPage);
            for (int i = 0; i < hyphens; i++) {
                put(HYPHEN);
            }
            putNumber(printPage);
        }

        private void beginLine() {
            if (pages == 0 || line + 1 >= height) {
                pages++;
                line = 0;
                lines++;
                place = 0;
                putNumber(printPage);
                place = width - lengthOfNumber(pages);
                putNumber(pages);
            }
            line++;
            lines++;
            place = 0;
        }

        private void tellPlace(BookWord word, int there) {
            word.page = pages - 1;
            word.line = line;
            word.place = place;
            word.partsThere = there;
            word.printPage = printPage;
        }

        private void putWord(Writing word, int there) {
            int split = word.lengthOfParts(there);
            for (int i = 0; i < word.length; i++) {
                if (i == split) {
                    put(HYPHEN);
                    beginLine();
                }
                put(word.cellOrNone(i));
            }
        }
    }

    /** A copy of a book, as it is felt, and where it is. */
    private static final class Copy {
        final int bookNumber;
        final Book book;
        private final byte[] felt;
        final boolean[] hurt;
        int hurtPages;
        /** How many dots the pins did not raise. */
        int missing;
        int reader = NONE;
        int due = NONE;
        int sent;

        Copy(int bookNumber, Book book) {
            this.bookNumber = bookNumber;
            this.book = book;
            felt = new byte[Math.max(0, book.countCells())];
            hurt = new boolean[Math.max(0, book.pages)];
        }

        /** Raises the dots of all cells, as long as each pin does. */
        void raise(int[] pins) {
            for (int i = 0; i < felt.length; i++) {
                int cell = book.cellAtIndex(i);
                int raised = 0;
                for (int pin = 0; pin < pins.length; pin++) {
                    boolean isAsked = (cell >> pin & 1) == 1;
                    if (isAsked && pins[pin] > 0) {
                        pins[pin]--;
                        raised |= 1 << pin;
                    } else if (isAsked) {
                        missing++;
                    }
                }
                felt[i] = (byte) raised;
            }
        }

        int cellAt(int page, int line, int place) {
            int index = book.indexOf(page, line, place);
            return index >= 0 && index < felt.length ? felt[index] : 0;
        }

        /** Puts the cells of a word, as they are felt, into a row; the hyphen of one in two lines is left out. */
        void gather(BookWord word, Writing into) {
            into.clear();
            int split = word.writing.lengthOfParts(word.partsThere);
            boolean isLastLine = word.line + 1 >= book.height;
            for (int i = 0; i < word.writing.length; i++) {
                if (i < split) {
                    into.append(cellAt(word.page, word.line, word.place + i));
                } else if (isLastLine) {
                    into.append(cellAt(word.page + 1, 1, i - split));
                } else {
                    into.append(cellAt(word.page, word.line + 1, i - split));
                }
            }
        }

        int countSheets() {
            return book.isBoth ? (book.pages + 1) / 2 : book.pages;
        }

        int daysLate(int day) {
            return due == NONE ? 0 : Math.max(0, day - due);
        }

        void send(int to, int until) {
            reader = to;
            due = until;
            sent++;
        }

        void comeHome() {
            reader = NONE;
            due = NONE;
        }

        void hurtPage(int page) {
            if (page < 0 || page >= hurt.length || hurt[page]) {
                return;
            }
            hurt[page] = true;
            hurtPages++;
            int from = book.indexOf(page, 0, 0);
            int end = book.indexOf(page + 1, 0, 0);
            for (int i = Math.max(0, from); i < end && i < felt.length; i++) {
                felt[i] = 0;
            }
        }
    }

    /** A reader. */
    private static final class Reader {
        final int rank;
        /** For each code the contractions that the reader knows, as bits. */
        final int[] known = new int[MOST_CODES];
        int lent;
        /** How many days late the copies were that the reader gave back. */
        int lateBefore;

        Reader(int rank) {
            this.rank = rank;
        }
    }

    /** The wishes that wait, in the order in which they came. */
    private static final class Wishes {
        static final int MOST = 30;

        final int[] readers = new int[MOST];
        final int[] books = new int[MOST];
        int count;

        int find(int reader, int book) {
            for (int i = 0; i < count; i++) {
                if (readers[i] == reader && books[i] == book) {
                    return i;
                }
            }
            return NONE;
        }

        int countFor(int book) {
            int sum = 0;
            for (int i = 0; i < count; i++) {
                if (books[i] == book) {
                    sum++;
                }
            }
            return sum;
        }

        void append(int reader, int book) {
            if (count < MOST) {
                readers[count] = reader;
                books[count] = book;
                count++;
            }
        }

        void remove(int wish) {
            if (wish < 0 || wish >= count) {
                return;
            }
            count--;
            for (int i = wish; i < count; i++) {
                readers[i] = readers[i + 1];
                books[i] = books[i + 1];
            }
        }
    }
}
