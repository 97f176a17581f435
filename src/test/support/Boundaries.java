/**
 * What the tests of boundary cases share. A test is a row of steps on a new house, each a call and the answer that is
 * due. If a row has refused calls, it is made again without them: every other answer must be the same, and so must all
 * that is asked and done behind it, since a call that throws an exception changes nothing.
 */
abstract class Boundaries {
    static final String BOUNDS = "IndexOutOfBoundsException";
    static final String ARGUMENT = "IllegalArgumentException";
    static final String STATE = "IllegalStateException";
    static final int LEAST = Integer.MIN_VALUE, MOST = Integer.MAX_VALUE;

    private static final int TRACES = 5;
    private static int tests = 0;
    private static int refused = 0;
    private static int wrong = 0;
    private static int promise = 0;

    interface Call {
        Object ask(Touchpress x);
    }

    /** A call and the answer that is due, a name of an exception too; null if any answer is. Or a row of steps. */
    static final class Step {
        private final Call call;
        private final String due;
        private final boolean isRefused;
        private final Step[] parts;

        private Step(Call call, String due, boolean isRefused, Step[] parts) {
            this.call = call;
            this.due = due;
            this.isRefused = isRefused;
            this.parts = parts;
        }
    }

    // ---- steps

    static Step is(Call call, Object due) {
        return new Step(call, "" + due, false, null);
    }

    static Step no(Call call, String exception) {
        return new Step(call, exception, true, null);
    }

    /** A call that only has to be taken. */
    static Step make(Call call) {
        return new Step(call, null, false, null);
    }

    static Step all(Step... parts) {
        return new Step(null, null, false, parts);
    }

    static Step times(int n, Step part) {
        Step[] parts = new Step[n];
        for (int i = 0; i < n; i++) {
            parts[i] = part;
        }
        return all(parts);
    }

    static Step put(String text) {
        return make(x -> type(x, text));
    }

    /** The tape holds this text, and nothing else. */
    static Step anew(String text) {
        return make(x -> retype(x, text));
    }

    static Step newCode() {
        return make(x -> x.code());
    }

    static Step contract(int code, String letters, int grade, int place, int first, int second) {
        return all(anew(letters), make(x -> x.contraction(code, grade, place, first, second)));
    }

    static Step divide(String parts) {
        return all(anew(parts), make(x -> x.division()));
    }

    static Step newBook(int code, int grade, int width, int height, boolean isBoth) {
        return make(x -> x.book(code, grade, width, height, isBoth));
    }

    static Step add(int book, String text) {
        return all(anew(text), make(x -> x.add(book)));
    }

    // ---- what is asked as one text

    private static int type(Touchpress x, String text) {
        int length = 0;
        for (int from = 0; from < text.length(); from += 8) {
            int n = Math.min(8, text.length() - from);
            long packed = 0;
            for (int i = 0; i < n; i++) {
                packed |= (long) text.charAt(from + i) << 8 * i;
            }
            length = x.type(packed, n);
        }
        return length;
    }

    private static int retype(Touchpress x, String text) {
        x.wipe();
        return type(x, text);
    }

    /** The cells of a word, and that there is none behind them. */
    static Step written(int code, int grade, String word, String cells) {
        return is(x -> {
            retype(x, word);
            int size = x.size(code, grade);
            StringBuilder s = new StringBuilder();
            for (int i = 0; i < size; i++) {
                s.append(i == 0 ? "" : " ").append(x.cell(code, grade, i));
            }
            return x.cell(code, grade, size) == -1 ? s : s + " and more";
        }, cells);
    }

    static Step formula(int which, String formula, String cells) {
        return is(x -> {
            retype(x, formula);
            int size = x.formulaCells(which);
            StringBuilder s = new StringBuilder();
            for (int i = 0; i < size; i++) {
                s.append(i == 0 ? "" : " ").append(x.formulaCell(which, i));
            }
            return x.formulaCell(which, size) == -1 ? s : s + " and more";
        }, cells);
    }

    /** A line of a page; a run of like cells as the cell, a star and how often. */
    static Step line(int book, int page, int line, String cells) {
        return is(x -> {
            StringBuilder s = new StringBuilder();
            int place = 0;
            int cell = cellAt(x, book, page, line, place);
            while (cell >= 0) {
                int run = 0;
                int same = cell;
                while (cell == same) {
                    run++;
                    place++;
                    cell = cellAt(x, book, page, line, place);
                }
                s.append(s.length() == 0 ? "" : " ").append(same).append(run > 1 ? "*" + run : "");
            }
            return s;
        }, cells);
    }

    private static int cellAt(Touchpress x, int book, int page, int line, int place) {
        try {
            return x.at(book, page, line, place);
        } catch (IndexOutOfBoundsException e) {
            return -1;
        }
    }

    /** All that is told of a word: cells, marked, page, line, place, parts there, print page, contractions. */
    static Step word(int book, int word, String told) {
        return is(x -> {
            StringBuilder s = new StringBuilder();
            for (int what = 0; what < 8; what++) {
                s.append(what == 0 ? "" : " ").append(x.word(book, word, what));
            }
            return s;
        }, told);
    }

    /** All that is told of a book: words, pages, lines, print page, dots, copies. */
    static Step ofBook(int book, String told) {
        return is(x -> {
            StringBuilder s = new StringBuilder();
            for (int what = 0; what < 6; what++) {
                s.append(what == 0 ? "" : " ").append(x.ofBook(book, what));
            }
            return s;
        }, told);
    }

    /** All that is told of a copy: book, missing dots, misread words, hurt pages, reader, day due, how often sent. */
    static Step ofCopy(int copy, String told) {
        return is(x -> {
            StringBuilder s = new StringBuilder();
            for (int what = 0; what < 7; what++) {
                s.append(what == 0 ? "" : " ").append(x.ofCopy(copy, what));
            }
            return s;
        }, told);
    }

    // ---- tests

    static void promise(int number) {
        promise = number;
    }

    static void test(String name, Step... steps) {
        tests++;
        Touchpress x = new Touchpress();
        if (go(name, steps, x, true, true) > 0) {
            refused++;
            go(name + " (without the refused calls)", steps, new Touchpress(), false, true);
            for (int kind = 0; kind < TRACES; kind++) {
                compareTraces(name, steps, kind);
            }
        }
    }

    static void end() {
        System.out.println(tests + " boundary cases, " + refused + " of them with refused calls, " + wrong + " wrong");
        if (wrong != 0) {
            System.exit(1);
        }
    }

    /** Makes the steps; returns how many refused calls there are. */
    private static int go(String name, Step[] steps, Touchpress x, boolean withRefused, boolean isTold) {
        int sum = 0;
        for (int i = 0; i < steps.length; i++) {
            Step step = steps[i];
            if (step.parts != null) {
                sum += go(name + ", step " + (i + 1), step.parts, x, withRefused, isTold);
                continue;
            }
            sum += step.isRefused ? 1 : 0;
            // A refused call is made twice: the first one may not change what the second one meets.
            int calls = !step.isRefused ? 1 : withRefused ? 2 : 0;
            for (int k = 0; k < calls; k++) {
                String got = answer(x, step.call);
                boolean isRight = step.due == null ? !got.endsWith("Exception") : got.equals(step.due);
                if (isTold && !isRight) {
                    tell(name + ", step " + (i + 1) + " answered " + got + ", due is "
                        + (step.due == null ? "no exception" : step.due));
                }
            }
        }
        return sum;
    }

    private static void tell(String what) {
        wrong++;
        System.out.println("promise " + promise + ": " + what);
    }

    private static String answer(Touchpress x, Call call) {
        try {
            return "" + call.ask(x);
        } catch (RuntimeException e) {
            return e.getClass().getSimpleName();
        }
    }

    // ---- traces: what later calls answer

    private static void compareTraces(String name, Step[] steps, int kind) {
        String[] with = trace(steps, kind, true);
        String[] without = trace(steps, kind, false);
        for (int i = 0; i < with.length && i < without.length; i++) {
            if (!with[i].equals(without[i])) {
                tell(name + ": behind the refused calls " + with[i] + ", without them " + without[i]);
                return;
            }
        }
        if (with.length != without.length) {
            tell(name + ": the refused calls changed something");
        }
    }

    private static String[] trace(Step[] steps, int kind, boolean withRefused) {
        Touchpress x = new Touchpress();
        go("", steps, x, withRefused, false);
        StringBuilder s = new StringBuilder();
        switch (kind) {
            case 0: traceTape(x, s); break;
            case 1: traceBooks(x, s); break;
            case 2: traceCopies(x, s); break;
            case 3: tracePost(x, s); break;
            default: traceLater(x, s); break;
        }
        return s.toString().split("\n");
    }

    private static void say(StringBuilder s, Touchpress x, String what, Call call) {
        s.append(what).append(" answered ").append(answer(x, call)).append('\n');
    }

    private static void traceTape(Touchpress x, StringBuilder s) {
        say(s, x, "fault", y -> y.fault());
        say(s, x, "formulaFault", y -> y.formulaFault());
        for (int i = 0; i < 2; i++) {
            int which = i;
            say(s, x, "formulaCells " + i, y -> y.formulaCells(which));
            say(s, x, "isReadBack " + i, y -> y.isReadBack(which));
            say(s, x, "formulaCell " + i, y -> y.formulaCell(which, 1));
        }
        traceTapeWord(x, s);
        say(s, x, "wipe", y -> y.wipe());
        for (String word : new String[] {"misthear", "*AB,", "abcdefghij"}) {
            retype(x, word);
            traceTapeWord(x, s);
        }
    }

    private static void traceTapeWord(Touchpress x, StringBuilder s) {
        for (int i = 0; i < 6; i++) {
            int code = i / 2;
            int grade = 2 * (i % 2) + 1;
            String to = " of the tape, code " + code + ", grade " + grade;
            say(s, x, "size" + to, y -> y.size(code, grade));
            say(s, x, "isMarked" + to, y -> y.isMarked(code, grade));
            say(s, x, "least" + to, y -> y.least(code, grade));
            say(s, x, "ways" + to, y -> y.ways(code, grade));
            say(s, x, "readings" + to, y -> y.readings(code, grade));
            for (int k = 0; k < 6; k++) {
                int place = k;
                say(s, x, "cell " + k + to, y -> y.cell(code, grade, place));
            }
        }
    }

    private static void traceBooks(Touchpress x, StringBuilder s) {
        for (int i = 0; i < 4; i++) {
            int book = i;
            for (int what = 0; what < 6; what++) {
                int asked = what;
                say(s, x, "ofBook " + i + " " + what, y -> y.ofBook(book, asked));
            }
            for (int word : new int[] {0, 1, 2, 3, 79}) {
                for (int what = 0; what < 8; what++) {
                    int asked = what;
                    say(s, x, "word " + i + " " + word + " " + what, y -> y.word(book, word, asked));
                }
            }
            for (int k = 0; k < 40; k++) {
                int page = k / 20;
                int line = k / 5 % 4;
                int place = 7 * k % 18;
                say(s, x, "at " + i + " " + page + " " + line + " " + place, y -> y.at(book, page, line, place));
            }
        }
    }

    private static void traceCopies(Touchpress x, StringBuilder s) {
        say(s, x, "sheets", y -> y.sheets());
        for (int i = 0; i < 20; i++) {
            int copy = i;
            for (int what = 0; what < 7; what++) {
                int asked = what;
                say(s, x, "ofCopy " + i + " " + what, y -> y.ofCopy(copy, asked));
            }
            for (int k = 0; k < 8; k++) {
                int page = k / 4;
                int line = k % 4;
                say(s, x, "felt " + i + " " + page + " " + line + " 2", y -> y.felt(copy, page, line, 2));
            }
        }
        for (int i = 0; i < 18; i++) {
            int embosser = i / 6;
            int pin = i % 6;
            say(s, x, "renew " + embosser + " " + pin, y -> y.renew(embosser, pin, 5));
        }
    }

    private static void tracePost(Touchpress x, StringBuilder s) {
        say(s, x, "day", y -> y.day());
        for (int i = 0; i < 24; i++) {
            int reader = i / 4;
            int book = i % 4;
            say(s, x, "unknown " + reader + " " + book, y -> y.unknown(reader, book));
            say(s, x, "ahead " + reader + " " + book, y -> y.ahead(reader, book));
            say(s, x, "late " + reader, y -> y.late(reader));
        }
        for (int days : new int[] {1, 2, 30}) {
            say(s, x, "pass " + days, y -> y.pass(days));
            for (int i = 0; i < 20; i++) {
                int copy = i;
                say(s, x, "reader of " + i, y -> y.ofCopy(copy, 4));
                say(s, x, "day due of " + i, y -> y.ofCopy(copy, 5));
            }
        }
        for (int i = 0; i < 20; i++) {
            int copy = i;
            say(s, x, "giveBack " + i, y -> y.giveBack(copy, 0));
        }
        for (int i = 0; i < 4; i++) {
            int book = i;
            say(s, x, "secret " + i, y -> y.secret(book, 0, 0));
        }
    }

    private static void traceLater(Touchpress x, StringBuilder s) {
        for (int i = 0; i < 3; i++) {
            int code = i;
            retype(x, "abc");
            say(s, x, "contraction of " + i, y -> y.contraction(code, 1, 0, 1, 0));
        }
        retype(x, "x yz");
        say(s, x, "division", y -> y.division());
        say(s, x, "code", y -> y.code());
        say(s, x, "book", y -> y.book(0, 2, 20, 4, true));
        say(s, x, "reader", y -> y.reader(1));
        for (int i = 0; i < 4; i++) {
            int book = i;
            retype(x, "xyz *Abc|12");
            say(s, x, "add to " + i, y -> y.add(book));
            say(s, x, "emboss " + i, y -> y.emboss(1, book));
        }
        for (int i = 0; i < 18; i++) {
            int reader = i / 3;
            int code = i % 3;
            say(s, x, "teach " + reader + " of " + code, y -> y.teach(reader, code, 0));
        }
        for (int i = 0; i < 24; i++) {
            int reader = i / 4;
            int book = i % 4;
            say(s, x, "wish " + reader + " " + book, y -> y.wish(reader, book));
            say(s, x, "ahead " + reader + " " + book, y -> y.ahead(reader, book));
        }
        say(s, x, "pass", y -> y.pass(25));
        for (int i = 0; i < 20; i++) {
            int copy = i;
            say(s, x, "reader of " + i, y -> y.ofCopy(copy, 4));
            say(s, x, "giveBack " + i, y -> y.giveBack(copy, -1));
        }
        for (int i = 0; i < 6; i++) {
            int reader = i;
            say(s, x, "late " + i, y -> y.late(reader));
        }
        say(s, x, "sheets", y -> y.sheets());
        say(s, x, "day", y -> y.day());
    }
}
