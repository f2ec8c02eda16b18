import java.util.ArrayList;
import java.util.Collections;
import java.util.List;

/** Promise 6: running a procedure, and what it traps by. */
public final class Promise6RunTest {
    public static void main(String[] args) {
        none();
        ordinary();
        variableIsANumber();
        order();
        freePlaces();
        noRoom();
        tooLong();
        tooDeep();
        wrongParts();
        whichTrapFirst();
        emptyHeapEachTime();
        deepExpressions();
        Due.end();
    }

    private static void none() {
        LinearCells x = Due.with("", "x i r (n x)");
        Due.is("run(1, 3)", 0, Due.run(x, 1, 3));
        for (int k : new int[] {-1, 0, 2, 3, 4, Integer.MIN_VALUE, Integer.MAX_VALUE}) {
            Due.is("run(" + k + ", 9)", Due.ILLEGAL_STATE, Due.run(x, k, 9));
        }
        Due.is("the latest run is the one that did not throw: cell(0)", 3, Due.cell(x, 0));
        Due.values("the latest run", x, 2, 0, 1, 0);
    }

    private static void ordinary() {
        Due.comesTo(17, "x i i 17", 0);
        Due.comesTo(-5, "x i i x", -5);
        Due.comesTo(9, "x i i (+ x 2)", 7);
        Due.comesTo(5, "x i i (- x 2)", 7);
        Due.comesTo(14, "x i i (* x 2)", 7);
        Due.comesTo(1, "x i i (< x 2)", 1);
        Due.comesTo(0, "x i i (< x 2)", 2);
        Due.comesTo(0, "x i i (< x 2)", 3);
        Due.comesTo(1, "x i i (< x 0)", Integer.MIN_VALUE);
        Due.comesTo(0, "x i i (< x 0)", Integer.MAX_VALUE);
        Due.comesTo(Integer.MIN_VALUE, "x i i (+ x 1)", Integer.MAX_VALUE);
        Due.comesTo(Integer.MAX_VALUE, "x i i (- x 1)", Integer.MIN_VALUE);
        Due.comesTo(-2, "x i i (* x 2)", Integer.MAX_VALUE);
        Due.comesTo(1, "x i i (? x 1 2)", 5);
        Due.comesTo(1, "x i i (? x 1 2)", -5);
        Due.comesTo(2, "x i i (? x 1 2)", 0);
        Due.comesTo(8, "x i i (: y (+ x 1) (+ y y))", 3);
        Due.comesTo(3, "x i i (/ a b (, 5 2) (- a b))", 0);
        Due.comesTo(6, "x i i (d (p (n x) 6))", 1);
        Due.comesTo(1, "x i i (d (n x))", 1);
        Due.comesTo(8, "x i i (/ a c (g (n x)) (+ a (d c)))", 4);
        Due.comesTo(9, "x i i (: x 4 (: x (+ x 5) x))", 1);
        Due.comesTo(5, "x i i (+ (: x 4 x) x)", 1);
        Due.comesTo(120, "x i i (? (< x 1) 1 (* x (@ 0 (- x 1))))", 5);
    }

    private static void variableIsANumber() {
        Due.comesTo(3, "x r i (+ x 1)", 2);
        Due.ran(4, "x r i (d x)", 2);
        Due.ran(4, "x (i i) i (/ a b x a)", 2);
    }

    private static void order() {
        // 12 is read ahead of the writing, which stands behind it.
        Due.comesTo(12 + 3, "x i i (: c (n 12) (/ a c (g c) (+ a (d (p c 3)))))", 0);
        Due.comesTo(2, "x i i (: c (n x) (- (d (p c 5)) (d (n 3))))", 0);
        LinearCells x = Due.with("x i (r r) (, (n 1) (n 2))");
        Due.is("run", 0, Due.run(x, 0, 0));
        Due.is("cell(0)", 1, Due.cell(x, 0));
        Due.is("cell(1)", 2, Due.cell(x, 1));
        // Of the two ways only the one that is asked for is gone.
        Due.comesTo(1, "x i i (? x 1 (d x))", 1);
        Due.comesTo(1, "x i i (? x (d x) 1)", 0);
        Due.comesTo(3, "x i i (: c (n x) (: y (? x (d c) 0) 3))", 0);
        Due.heaps("the other way is not gone", Due.ran(0, "x i i (: c (n x) (? x (d c) 3))", 0), 1, 1, 0, 0, 6);
        // n takes the lowest free place.
        x = Due.ran(0, "x i r (:a(n 1)(:b(n 2)(:c(n 3)(:u(d b)(:v(d a)(:w(n 4)(n 5)))))))", 0);
        Due.is("cell(0)", 4, Due.cell(x, 0));
        Due.is("cell(1)", 5, Due.cell(x, 1));
        Due.is("cell(2)", 3, Due.cell(x, 2));
    }

    private static void freePlaces() {
        Due.ran(1, "x i i (: c (n x) (+ (d c) (d c)))", 1);
        Due.ran(1, "x i i (: c (n x) (: u (d c) (g c)))", 1);
        Due.ran(1, "x i i (: c (n x) (: u (d c) (p c 1)))", 1);
        Due.ran(1, "x i i (: c (n x) (p c (d c)))", 1);
        // Another cell has taken the place in the meantime.
        Due.comesTo(9, "x i i (: c (n x) (: u (d c) (: e (n 9) (d c))))", 1);
        Due.ran(1, "x i i (: c (n x) (: u (d c) (: e (n 9) (+ (d c) (d e)))))", 1);
    }

    private static void noRoom() {
        String twelve = "x i i (? x (: c (n x) (@ 0 (- x 1))) 7)";
        Due.comesTo(7, twelve, 12);
        Due.ran(2, twelve, 13);
        LinearCells x = Due.with(twelve);
        Due.is("run(0, 13)", 2, Due.run(x, 0, 13));
        Due.heaps("run(0, 13)", x, 12, 12, 0, 0, 12 * 9 + 5);
        // Six pairs a call.
        String pairs = "x i i (?x(:y(,(,(,1 2)(,3 4))(,(,5 6)7))(@0(- x 1)))(@1 x))";
        LinearCells y = Due.with(pairs, "x i i 7");
        Due.is("run(0, 20)", 0, Due.run(y, 0, 20));
        Due.is("heap(3)", 120, Due.heap(y, 3));
        Due.given(y, 1, "x i (i i) (, x x)");
        Due.is("run(0, 20)", 2, Due.run(y, 0, 20));
        Due.is("heap(3)", 120, Due.heap(y, 3));
        Due.is("run(0, 19)", 0, Due.run(y, 0, 19));
        Due.is("heap(3)", 115, Due.heap(y, 3));
        Due.given(y, 1, "x i (i r) (g (n 4))");
        Due.is("run(0, 20)", 2, Due.run(y, 0, 20));
        Due.is("heap(1)", 1, Due.heap(y, 1));
        Due.given(y, 1, "x i (i r) (: c (n 4) (: u (d c) (g c)))");
        Due.is("for g, 1 goes ahead of 2", 1, Due.run(y, 0, 20));
    }

    private static void tooLong() {
        LinearCells x = Due.with("x i i x");
        Due.given(x, 1, "xii" + Due.sum(Collections.nCopies(16, "x")));
        Due.is("run(1, 1)", 0, Due.run(x, 1, 1));
        Due.is("heap(4)", 31, Due.heap(x, 4));
        Due.given(x, 2, "xii" + Due.sum(Collections.nCopies(7, "(@1x)")));
        Due.is("run(2, 1)", 0, Due.run(x, 2, 1));
        Due.is("heap(4)", 7 * 33 + 6, Due.heap(x, 4));
        // 8 * 239 + 2 * 33 + 6 terms' expressions, 15 for + and 1 for n.
        Due.given(x, 3, "xii(n" + Due.sum(terms(8, 2, 6)) + ")");
        Due.is("just 2000 expressions", 0, Due.run(x, 3, 1));
        Due.heaps("just 2000 expressions", x, 1, 1, 0, 0, 2000);
        Due.given(x, 3, "xii" + Due.sum(terms(8, 2, 7)));
        Due.is("one more than 2000", 3, Due.run(x, 3, 1));
        Due.heaps("one more than 2000", x, 0, 0, 0, 0, 2000);
        Due.values("one more than 2000", x, 0, 0, 0, 0);
    }

    private static List<String> terms(int callsOfTwo, int callsOfOne, int variables) {
        List<String> terms = new ArrayList<>();
        terms.addAll(Collections.nCopies(callsOfTwo, "(@2x)"));
        terms.addAll(Collections.nCopies(callsOfOne, "(@1x)"));
        terms.addAll(Collections.nCopies(variables, "x"));
        return terms;
    }

    private static void tooDeep() {
        LinearCells x = Due.with("x i i (? x (@ 0 (- x 1)) 5)", "x i i (+ (@ 0 x) (@ 0 x))");
        Due.is("24 deep", 0, Due.run(x, 0, 23));
        Due.is("value(1)", 5, Due.value(x, 1));
        Due.is("25 deep", 3, Due.run(x, 0, 24));
        Due.heaps("the part of @ has its value", x, 0, 0, 0, 0, 24 * 6);
        Due.is("24 deep twice", 0, Due.run(x, 1, 22));
        Due.is("value(1)", 10, Due.value(x, 1));
        Due.is("25 deep", 3, Due.run(x, 1, 23));
        Due.is("without an end", 3, Due.run(Due.with("x i i (@ 0 x)"), 0, 0));
        // The part of the call that goes too deep comes first.
        Due.is("a trap in its part", 4, Due.run(Due.with("x i i (@ 0 (? x (- x 1) (d x)))"), 0, 23));
        // What is not there can't be entered.
        Due.is("not there", 4, Due.run(Due.with("x i i (? x (@ 0 (- x 1)) (@ 1 x))"), 0, 23));
    }

    private static void wrongParts() {
        for (String form : new String[] {"+", "-", "*", "<"}) {
            for (String other : new String[] {"(n 1)", "(, 1 1)"}) {
                Due.ran(4, "x i i (" + form + " 1 " + other + ")", 1);
                Due.ran(4, "x i i (" + form + " " + other + " 1)", 1);
                Due.ran(4, "x i i (" + form + " " + other + " " + other + ")", 1);
            }
        }
        Due.ran(4, "x i i (? (n 1) 1 1)", 1);
        Due.ran(4, "x i i (? (, 1 1) 1 1)", 1);
        Due.ran(4, "x i i (/ a b 1 1)", 1);
        Due.ran(4, "x i i (/ a b (n 1) 1)", 1);
        Due.ran(4, "x i i (n (n 1))", 1);
        Due.ran(4, "x i i (n (, 1 1))", 1);
        for (String form : new String[] {"(g ", "(d ", "(p 3 ", "(p (n 3) "}) {
            Due.ran(form.equals("(p (n 3) ") ? 0 : 4, "x i i " + form + "1)", 1);
            Due.ran(4, "x i i " + form + "(, 1 1))", 1);
        }
        Due.ran(4, "x i i (p 1 1)", 1);
        Due.ran(4, "x i i (p (, 1 1) 1)", 1);
        Due.ran(4, "x i i (p (n 1) (n 1))", 1);
        Due.ran(4, "x i i (@ 1 x)", 1);
        Due.ran(0, "x i i (, (n 1) (, 1 1))", 1);
        Due.ran(0, "x i i (: y (n 1) (: z (, y y) 1))", 1);
    }

    private static void trapsAfter(int trap, int made, int begun, String text) {
        LinearCells x = Due.with(text);
        Due.is("run of '" + text + "'", trap, Due.run(x, 0, 1));
        Due.is("heap(1) of '" + text + "'", made, Due.heap(x, 1));
        Due.is("heap(4) of '" + text + "'", begun, Due.heap(x, 4));
    }

    private static void whichTrapFirst() {
        // When all parts have their values.
        trapsAfter(4, 2, 5, "x i i (+ (n 1) (n 2))");
        trapsAfter(4, 2, 5, "x i i (p (n 1) (n 2))");
        trapsAfter(4, 1, 4, "x i i (p 1 (n 2))");
        trapsAfter(4, 1, 3, "x i i (@ 1 (n 2))");
        // At once.
        trapsAfter(4, 1, 3, "x i i (? (n 1) (n 2) (n 3))");
        trapsAfter(4, 1, 3, "x i i (/ a b (n 1) (n 2))");
        // A trap in a part ends the run.
        trapsAfter(4, 0, 3, "x i i (+ (d 1) (n 2))");
        trapsAfter(1, 1, 9, "x i i (+ (: c (n 1) (: u (d c) (d c))) (n 2))");
        trapsAfter(4, 0, 3, "x i i (@ 1 (d 2))");
        // 4 goes ahead of 1 and of 2.
        Due.ran(4, "x i i (: c (n 1) (: u (d c) (p c c)))", 1);
        Due.ran(4, "x i i (? x (: c (n x) (@ 0 (- x 1))) (n (, 1 1)))", 12);
        Due.ran(2, "x i i (? x (: c (n x) (@ 0 (- x 1))) (n 1))", 12);
        LinearCells y = Due.with("x i i (?x(:y(,(,(,1 2)(,3 4))(,(,5 6)7))(@0(- x 1)))(@1 x))");
        Due.given(y, 1, "x i (i r) (g 1)");
        Due.is("4 goes ahead of 2", 4, Due.run(y, 0, 20));
        Due.given(y, 1, "x i (i r) (, 1 (d 1))");
        Due.is("the parts of , come first", 4, Due.run(y, 0, 20));
    }

    private static void emptyHeapEachTime() {
        LinearCells x = Due.with("x i i (? x (: c (n x) (@ 0 (- x 1))) 7)", "x i (r r) (, (n x) (n 6))");
        for (int i = 0; i < 3; i++) {
            Due.is("run(0, 12)", 0, Due.run(x, 0, 12));
            Due.heaps("run(0, 12)", x, 12, 12, 0, 0, 12 * 9 + 3);
            Due.is("cell(11)", 1, Due.cell(x, 11));
            Due.is("run(1, 5)", 0, Due.run(x, 1, 5));
            Due.heaps("run(1, 5)", x, 2, 2, 0, 1, 5);
            Due.is("cell(0)", 5, Due.cell(x, 0));
            Due.is("cell(2)", Due.OUT_OF_BOUNDS, Due.cell(x, 2));
            Due.is("run(0, 13)", 2, Due.run(x, 0, 13));
            Due.values("run(0, 13)", x, 0, 0, 0, 0);
        }
    }

    private static void deepExpressions() {
        // 24 calls, each of them 14 expressions deep.
        String text = "xii" + Due.times(13, "(+1") + "(?x(@0(-x1))0)" + Due.times(13, ")");
        Due.comesTo(24 * 13, text, 23);
        Due.ran(3, text, 24);
        // Each call has all of its binders in use.
        String binders = "xii" + Due.times(7, "(:y(:yxx)") + Due.times(5, "(:yx") + "(?x(@0(-x1))y)"
            + Due.times(12, ")");
        Due.comesTo(0, binders, 23);
    }
}
