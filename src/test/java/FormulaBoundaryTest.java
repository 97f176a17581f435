/** The boundary cases of the promises 14 to 17: formulas, their faults, their cells in two codes, read back. */
public final class FormulaBoundaryTest extends Boundaries {
    private static final String TWELVE = "a+b+c+d+e+f+g+h+i+j+k+l";

    public static void main(String[] args) {
        faultsOfAtoms();
        faultsOfSigns();
        faultsOfBrackets();
        faultsOfManyAtoms();
        arguments();
        numberOfCells();
        atoms();
        lineBrackets();
        fieldBrackets();
        trees();
        end();
    }

    // ---- promise 14

    private static void faultOf(String formula, int due) {
        test("the fault of '" + formula + "'", put(formula), is(x -> x.formulaFault(), due), is(x -> x.wipe(), formula.length()));
    }

    private static void faultsOfAtoms() {
        promise(14);
        faultOf("", 0);
        faultOf("a", -1);
        faultOf("z", -1);
        faultOf("A", 0);
        faultOf("1", -1);
        faultOf("1234", -1);
        faultOf("12345", 4);
        faultOf("0", -1);
        faultOf("0000", -1);
        faultOf("00000", 4);
        faultOf("ab", 1);
        faultOf("a1", 1);
        faultOf("1a", 1);
        faultOf("1234a", 4);
        faultOf("a+1234", -1);
        faultOf("a+12345", 6);
        faultOf("1234+1234", -1);
        for (String other : new String[] {" ", ",", ";", "?", "*", "|", "A", "Z"}) {
            faultOf(other, 0);
            faultOf("a" + other, 1);
            faultOf("1" + other, 1);
            faultOf("a+" + other, 2);
            faultOf("(" + other, 1);
            faultOf("(a)" + other, 3);
        }
    }

    private static void faultsOfSigns() {
        promise(14);
        for (String sign : new String[] {"+", "-", ".", "/", "^"}) {
            faultOf(sign, 0);
            faultOf(sign + "a", 0);
            faultOf("a" + sign, 2);
            faultOf("a" + sign + "b", -1);
            faultOf("1" + sign + "2", -1);
            faultOf("(a)" + sign + "(b)", -1);
            faultOf("a" + sign + sign, 2);
            faultOf("a" + sign + "-b", 2);
            faultOf("a" + sign + ")", 2);
            faultOf("(a" + sign + ")", 3);
            faultOf("(" + sign + "a)", 1);
        }
        faultOf("a^b^c", -1);
        faultOf("a^b^", 4);
    }

    private static void faultsOfBrackets() {
        promise(14);
        faultOf("(", 1);
        faultOf(")", 0);
        faultOf("()", 1);
        faultOf("(a", 2);
        faultOf("(a)", -1);
        faultOf("(1)", -1);
        faultOf("a)", 1);
        faultOf("(a))", 3);
        faultOf("((a)", 4);
        faultOf("((a))", -1);
        faultOf("a(", 1);
        faultOf("1(", 1);
        faultOf("a(b)", 1);
        faultOf("(a)(b)", 3);
        faultOf("(a)b", 3);
        faultOf("(a)1", 3);
        faultOf("(1)2", 3);
        faultOf("(1", 2);
        faultOf("(a+b", 4);
        faultOf("(a)+(b", 6);
        faultOf("(".repeat(60), 60);
        faultOf(")".repeat(60), 0);
        faultOf("(".repeat(59) + "a", 60);
        faultOf("(".repeat(30) + "a" + ")".repeat(29), 60);
        faultOf("(".repeat(29) + "a" + ")".repeat(29), -1);
        faultOf("(".repeat(29) + "a" + ")".repeat(30), 59);
        faultOf("(".repeat(29) + "12" + ")".repeat(29), -1);
    }

    private static void faultsOfManyAtoms() {
        promise(14);
        faultOf(TWELVE, -1);
        faultOf(TWELVE + "+", 24);
        faultOf(TWELVE + "^", 24);
        faultOf(TWELVE + ")", 23);
        faultOf(TWELVE + "+m", 24);
        faultOf(TWELVE + "+1", 24);
        faultOf(TWELVE + "+(", 25);
        faultOf(TWELVE + "+(m", 25);
        faultOf(TWELVE + "+((((1", 28);
        faultOf(TWELVE + "+^", 24);
        faultOf(TWELVE + "+)", 24);
        faultOf("(" + TWELVE + ")", -1);
        faultOf("(" + TWELVE + ")^", 26);
        faultOf("(" + TWELVE + ")^m", 26);
        faultOf("(" + TWELVE, 24);
        faultOf("a+b+c+d+e+f+g+h+i+j+k+1234", -1);
        faultOf("a+b+c+d+e+f+g+h+i+j+k+12345", 26);
        faultOf("1+1+1+1+1+1+1+1+1+1+1+1", -1);
        faultOf("1+1+1+1+1+1+1+1+1+1+1+1+1", 24);
        faultOf("((a)+(b))+((c)+(d))+((e)+(f))+((g)+(h))+((i)+(j))+((k)+(l))", -1);
        faultOf("1234/1234/1234/1234/1234/1234/1234/1234/1234/1234/1234/1234", -1);
        faultOf("1234/1234/1234/1234/1234/1234/1234/1234/1234/1234/1234/1234+", 60);
        test("the fault moves with what is typed", is(x -> x.formulaFault(), 0), put("("), is(x -> x.formulaFault(), 1), put("a"),
            is(x -> x.formulaFault(), 2), put(")"), is(x -> x.formulaFault(), -1), put(")"), is(x -> x.formulaFault(), 3), put("a"),
            is(x -> x.formulaFault(), 3));
        test("a text that is a formula, and one that is none", put("a.b"), is(x -> x.formulaFault(), -1), is(x -> x.fault(), 2), anew("a b"),
            is(x -> x.formulaFault(), 1), is(x -> x.fault(), -1));
    }

    // ---- promises 15 to 17: arguments

    private static void arguments() {
        for (int which : new int[] {-1, 2, LEAST, MOST}) {
            promise(15);
            test("which is " + which, put("a+b"), no(x -> x.formulaCells(which), ARGUMENT), is(x -> x.wipe(), 3));
            test("which is " + which + " without a formula", no(x -> x.formulaCells(which), ARGUMENT));
            promise(16);
            test("which is " + which, put("a+b"), no(x -> x.formulaCell(which, 0), ARGUMENT), is(x -> x.wipe(), 3));
            test("which is " + which + " and the place below 0", put("a+b"), no(x -> x.formulaCell(which, -1), ARGUMENT));
            test("which is " + which + " without a formula", no(x -> x.formulaCell(which, 0), ARGUMENT));
            promise(17);
            test("which is " + which, put("a+b"), no(x -> x.isReadBack(which), ARGUMENT), is(x -> x.wipe(), 3));
            test("which is " + which + " without a formula", no(x -> x.isReadBack(which), ARGUMENT));
        }
        for (String tape : new String[] {"", "a+", "(a", "a)", "A", "a b", "12345", TWELVE + "+m"}) {
            for (int i = 0; i < 2; i++) {
                int which = i;
                String told = "'" + tape + "' is no formula, " + which;
                promise(15);
                test(told, put(tape), no(x -> x.formulaCells(which), STATE), is(x -> x.wipe(), tape.length()));
                promise(16);
                test(told, put(tape), no(x -> x.formulaCell(which, 0), STATE), no(x -> x.formulaCell(which, MOST), STATE), is(x -> x.wipe(), tape.length()));
                test(told + ", and the place below 0", put(tape), no(x -> x.formulaCell(which, -1), BOUNDS));
                promise(17);
                test(told, put(tape), no(x -> x.isReadBack(which), STATE), is(x -> x.wipe(), tape.length()));
            }
        }
        promise(16);
        for (int place : new int[] {-1, -2, LEAST}) {
            test("the place " + place, put("a+b"), no(x -> x.formulaCell(0, place), BOUNDS), no(x -> x.formulaCell(1, place), BOUNDS));
        }
        test("the first place", put("a+b"), is(x -> x.formulaCell(0, 0), 1), is(x -> x.formulaCell(1, 0), 1));
        test("the last place", put("a+b"), is(x -> x.formulaCell(0, 2), 3), is(x -> x.formulaCell(1, 2), 3));
        test("the place behind the last one", put("a+b"), is(x -> x.formulaCell(0, 3), -1), is(x -> x.formulaCell(1, 3), -1));
        test("a place far behind", put("a+b"), is(x -> x.formulaCell(0, MOST), -1), is(x -> x.formulaCell(0, 160), -1), is(x -> x.formulaCell(1, 1000), -1));
        test("a place that a longer formula had", put("a+b+c"), is(x -> x.formulaCell(0, 4), 9), anew("a"), is(x -> x.formulaCell(0, 4), -1));
    }

    // ---- promises 15 and 16: cells

    private static void cells(String formula, int line, int field) {
        test("how many cells '" + formula + "' has", put(formula), is(x -> x.formulaCells(0), line), is(x -> x.formulaCells(1), field),
            is(x -> x.wipe(), formula.length()));
    }

    private static void numberOfCells() {
        promise(15);
        cells("a", 1, 1);
        cells("1", 2, 2);
        cells("1234", 5, 5);
        cells("(((a)))", 1, 1);
        cells("a/b", 3, 5);
        cells("a^b", 3, 4);
        cells("a+b", 3, 3);
        cells("1234/1234/1234/1234/1234/1234/1234/1234/1234/1234/1234/1234", 71, 93);
        cells("1234^1234^1234^1234^1234^1234^1234^1234^1234^1234^1234^1234", 71, 82);
        cells("1234-1234-1234-1234-1234-1234-1234-1234-1234-1234-1234-1234", 71, 71);
        cells("a-(b-(c-(d-(e-(f-(g-(h-(i-(j-(k-l))))))))))", 43, 43);
        cells("((((((((((a^b)^c)^d)^e)^f)^g)^h)^i)^j)^k)^l", 43, 54);
        cells("(".repeat(29) + "1" + ")".repeat(29), 2, 2);
    }

    private static void both(String formula, String cells) {
        test("the cells of '" + formula + "'", formula(0, formula, cells), formula(1, formula, cells));
    }

    private static void atoms() {
        promise(16);
        both("a", "1");
        both("z", "53");
        both("1", "60 1");
        both("9", "60 10");
        both("0", "60 26");
        both("1234", "60 1 3 9 25");
        both("5678", "60 17 11 27 19");
        both("90", "60 10 26");
        both("0000", "60 26 26 26 26");
        both("01", "60 26 1");
        both("a+b", "1 22 3");
        both("a-b", "1 36 3");
        both("a.b", "1 20 3");
        both("(a)", "1");
        both("((12))", "60 1 3");
        both("1.a", "60 1 20 1");
        both("a.1", "1 20 60 1");
        both("1+1", "60 1 22 60 1");
    }

    private static void line(String formula, String cells) {
        test("the line code of '" + formula + "'", formula(0, formula, cells));
    }

    private static void lineBrackets() {
        promise(16);
        line("a/b", "1 12 3");
        line("a^b", "1 34 3");
        line("a^1", "1 34 60 1");
        line("(a+b).c", "35 1 22 3 28 20 9");
        line("a.(b+c)", "1 20 35 3 22 9 28");
        line("(a-b)/c", "35 1 36 3 28 12 9");
        line("a/(b-c)", "1 12 35 3 36 9 28");
        line("(a+b)^c", "35 1 22 3 28 34 9");
        line("a^(b+c)", "1 34 35 3 22 9 28");
        line("(a+b)+c", "1 22 3 22 9");
        line("a+(b+c)", "1 22 35 3 22 9 28");
        line("a+(b-c)", "1 22 35 3 36 9 28");
        line("a-(b+c)", "1 36 35 3 22 9 28");
        line("(a.b).c", "1 20 3 20 9");
        line("a.(b.c)", "1 20 35 3 20 9 28");
        line("a.(b/c)", "1 20 35 3 12 9 28");
        line("a/(b.c)", "1 12 35 3 20 9 28");
        line("a/(b/c)", "1 12 35 3 12 9 28");
        line("(a/b)/c", "1 12 3 12 9");
        line("(a.b)+c", "1 20 3 22 9");
        line("a+(b.c)", "1 22 3 20 9");
        line("a-(b/c)", "1 36 3 12 9");
        line("(a.b)^c", "35 1 20 3 28 34 9");
        line("a^(b.c)", "1 34 35 3 20 9 28");
        line("(a/b)^c", "35 1 12 3 28 34 9");
        line("a^(b/c)", "1 34 35 3 12 9 28");
        line("(a^b)^c", "35 1 34 3 28 34 9");
        line("a^(b^c)", "1 34 3 34 9");
        line("a^b^c", "1 34 3 34 9");
        line("(a^b).c", "1 34 3 20 9");
        line("a.(b^c)", "1 20 3 34 9");
        line("(a^b)+(c^d)", "1 34 3 22 9 34 25");
        line("((a+b)+c)+d", "1 22 3 22 9 22 25");
        line("a+b.c^d", "1 22 3 20 9 34 25");
        line("((a+b).c)^d", "35 35 1 22 3 28 20 9 28 34 25");
    }

    private static void field(String formula, String cells) {
        test("the field code of '" + formula + "'", formula(1, formula, cells));
    }

    private static void fieldBrackets() {
        promise(16);
        field("a/b", "55 1 12 3 62");
        field("1/2", "55 60 1 12 60 3 62");
        field("a^b", "1 24 3 16");
        field("(a+b)/c", "55 1 22 3 12 9 62");
        field("a/(b+c)", "55 1 12 3 22 9 62");
        field("(a.b)/c", "55 1 20 3 12 9 62");
        field("a.b/c", "55 1 20 3 12 9 62");
        field("a/(b.c)", "55 1 12 3 20 9 62");
        field("(a^b)/(c^d)", "55 1 24 3 16 12 9 24 25 16 62");
        field("(a/b)/c", "55 55 1 12 3 62 12 9 62");
        field("a/(b/c)", "55 1 12 55 3 12 9 62 62");
        field("a.(b/c)", "1 20 55 3 12 9 62");
        field("(a/b).c", "55 1 12 3 62 20 9");
        field("a+(b/c)", "1 22 55 3 12 9 62");
        field("a-b/c", "1 36 55 3 12 9 62");
        field("(a/b)^c", "55 1 12 3 62 24 9 16");
        field("a^(b/c)", "1 24 55 3 12 9 62 16");
        field("a^(b+c)", "1 24 3 22 9 16");
        field("a^(b.c)", "1 24 3 20 9 16");
        field("a^b^c", "1 24 3 24 9 16 16");
        field("a^(b^c)", "1 24 3 24 9 16 16");
        field("(a^b)^c", "35 1 24 3 16 28 24 9 16");
        field("(a+b)^c", "35 1 22 3 28 24 9 16");
        field("(a.b)^c", "35 1 20 3 28 24 9 16");
        field("(a+b).c", "35 1 22 3 28 20 9");
        field("a.(b.c)", "1 20 35 3 20 9 28");
        field("a.(b.c/d)", "1 20 55 3 20 9 12 25 62");
        field("a.(b/c.d)", "1 20 35 55 3 12 9 62 20 25 28");
        field("(a^b).c", "1 24 3 16 20 9");
        field("a+(b+c)", "1 22 35 3 22 9 28");
        field("(a+b)+c", "1 22 3 22 9");
    }

    // ---- promise 17

    private static void trees() {
        promise(17);
        String[] formulas = {"a", "1", "0000", "0007", "1234", "(a)", "a+b", "a-b", "a.b", "a/b", "a^b", "a-b-c", "a-(b-c)", "a/b/c", "a/(b/c)",
            "a^b^c", "(a^b)^c", "(a+b).(c-d)/(e+f)^(g-h)", "a.b+c.d", "a.(b.(c.(d.e)))", "a/(b+c/(d+e/(f+g/(h+i/(j+k/l)))))",
            "a^(b+c^(d+e^(f+g^(h+i^(j+k^l)))))", "((((((((((a^b)^c)^d)^e)^f)^g)^h)^i)^j)^k)^l", "a-(b-(c-(d-(e-(f-(g-(h-(i-(j-(k-l))))))))))",
            "a^b^c^d^e^f^g^h^i^j^k^l", "1234/1234/1234/1234/1234/1234/1234/1234/1234/1234/1234/1234",
            "1234^1234^1234^1234^1234^1234^1234^1234^1234^1234^1234^1234", "(".repeat(29) + "a" + ")".repeat(29),
            "(".repeat(13) + "a^(b/(c.(d-(e^(f/(g.h))))))" + ")".repeat(13), "1+a.1/a^1-(2+b)", TWELVE};
        for (String formula : formulas) {
            test("the line code of '" + formula + "'", put(formula), is(x -> x.isReadBack(0), true), is(x -> x.wipe(), formula.length()));
            test("the field code of '" + formula + "'", put(formula), is(x -> x.isReadBack(1), true), is(x -> x.wipe(), formula.length()));
        }
        test("one behind the other", put("a-(b-c)"), is(x -> x.isReadBack(0), true), anew("a-b-c"), is(x -> x.isReadBack(1), true), anew("a"),
            is(x -> x.isReadBack(0), true), is(x -> x.isReadBack(1), true));
    }
}
