import java.util.Collections;

/** The sentences about running a procedure, its traps and run() that name a boundary case. */
public final class BoundaryRunTest {
    private static final int[] EDGES = {Integer.MIN_VALUE, Integer.MIN_VALUE + 1, -1, 0, 1, Integer.MAX_VALUE};
    // A number, a cell and a pair.
    private static final String[] PARTS = {"1", "(n 1)", "(, 1 1)"};
    // Makes as many cells as its number says and goes on to 1.
    private static final String CELLS = "x i i (? x (: c (n x) (@ 0 (- x 1))) (@ 1 x))";
    // Makes six pairs for each of its number and goes on to 1.
    private static final String PAIRS = "x i i (?x(:y(,(,(,1 2)(,3 4))(,(,5 6)7))(@0(- x 1)))(@1 x))";

    // 8 * 239 expressions for calls of 2, 2 * 33 for calls of 1, and 9 for +.
    private static final String MOST = "(+" + Due.sum(Collections.nCopies(8, "(@2x)")) + "(+(@1x)(@1x)))";

    public static void main(String[] args) {
        Due.sentence("with x for that number (whatever T is)", BoundaryRunTest::variable);
        Due.sentence("+ - *: numbers", BoundaryRunTest::numbersGoRound);
        Due.sentence("1 if e is less than f, else 0", BoundaryRunTest::less);
        Due.sentence("(? c e f): e if c is not 0, else f", BoundaryRunTest::notZero);
        Due.sentence("e and f of ? only the one that is asked for", BoundaryRunTest::askedFor);
        Due.sentence("Parts have their values in the order in which they stand", BoundaryRunTest::order);
        Due.sentence("It TRAPS, and ends at once", BoundaryRunTest::endsAtOnce);
        Due.sentence("The HEAP has 12 PLACES, each free (all at first)", BoundaryRunTest::places);
        Due.sentence("n takes the free place with the lowest number", BoundaryRunTest::lowestPlace);
        Due.sentence("1: g, p or d of a cell whose place is free", BoundaryRunTest::freePlace);
        Due.sentence("CELLS (a place)", BoundaryRunTest::takenAgain);
        Due.sentence("2: n when no place is free", BoundaryRunTest::noPlace);
        Due.sentence("2: a pair (of , or g) when 120 have been made", BoundaryRunTest::mostPairs);
        Due.sentence("2: in this run", BoundaryRunTest::pairsOfThisRun);
        Due.sentence("3: begun (each as often) would be more than 2000", BoundaryRunTest::mostExpressions);
        Due.sentence("3: procedures would be more than 24 deep (the first one 1)", BoundaryRunTest::deepest);
        Due.sentence("4: a part is not a number, cell or pair, as it must be", BoundaryRunTest::wrongParts);
        Due.sentence("4: looked at when all parts have their values", BoundaryRunTest::behindAllParts);
        Due.sentence("4: and ahead of 1 and 2", BoundaryRunTest::aheadOfOneAndTwo);
        Due.sentence("4: but for the c of ? and the e of /, at once", BoundaryRunTest::atOnce);
        Due.sentence("4: @ of a procedure that is not there (when its part has its value)", BoundaryRunTest::notThere);
        Due.sentence("For g, 1 goes ahead of 2", BoundaryRunTest::getOfFreePlace);
        Due.sentence("Runs procedure k, with an empty heap", BoundaryRunTest::emptyHeap);
        Due.sentence("0 if its body came to a value, else what it trapped by", BoundaryRunTest::answers);
        Due.sentence("run: IllegalStateException: there is none", BoundaryRunTest::none);
        Due.end();
    }

    private static void variable() {
        for (String type : new String[] {"i", "r", "(i i)", "(r (i r))"}) {
            for (int n : EDGES) {
                Due.comesTo(n, "x " + type + " i x", n);
                Due.comesTo(n, "x " + type + " r x", n);
            }
            Due.comesTo(8, "x " + type + " i (+ x 1)", 7);
            Due.ran(4, "x " + type + " i (d x)", 0);
            Due.ran(4, "x " + type + " i (/ a b x 1)", 0);
        }
    }

    private static void numbersGoRound() {
        for (int e : EDGES) {
            Due.comesTo(e + 1, "x i i (+ x 1)", e);
            Due.comesTo(e - 1, "x i i (- x 1)", e);
            Due.comesTo(e + e, "x i i (+ x x)", e);
            Due.comesTo(-e, "x i i (- 0 x)", e);
            Due.comesTo(e * 2, "x i i (* x 2)", e);
            Due.comesTo(e * e, "x i i (* x x)", e);
            Due.comesTo(e * e * 9999, "x i i (* (* x x) 9999)", e);
        }
        Due.comesTo(9999 * 9999 * 9999, "x i i (* x (* x x))", 9999);
    }

    private static void less() {
        for (int e : EDGES) {
            Due.comesTo(0, "x i i (< x x)", e);
            Due.comesTo(e < 0 ? 1 : 0, "x i i (< x 0)", e);
            Due.comesTo(0 < e ? 1 : 0, "x i i (< 0 x)", e);
            Due.comesTo(e < 1 ? 1 : 0, "x i i (< x 1)", e);
            Due.comesTo(e < Integer.MAX_VALUE ? 1 : 0, "x i i (< x (+ x 1))", e);
        }
        // Their difference is no int.
        Due.comesTo(1, "x i i (< x (- x 1))", Integer.MIN_VALUE);
        Due.comesTo(0, "x i i (< (- x 1) x)", Integer.MIN_VALUE);
    }

    private static void notZero() {
        for (int n : EDGES) {
            Due.comesTo(n != 0 ? 1 : 2, "x i i (? x 1 2)", n);
            Due.comesTo(n != 0 ? 1 : 2, "x i i (? (* x 1) (+ 0 1) (+ 1 1))", n);
        }
        // The lowest byte, or the lowest half, is 0.
        Due.comesTo(1, "x i i (? x 1 2)", 256);
        Due.comesTo(1, "x i i (? x 1 2)", 1 << 16);
        Due.comesTo(2, "x i i (? 0000 1 2)", 1);
    }

    private static void askedFor() {
        for (String trap : new String[] {"(d 1)", "(@ 1 1)", "(@ 0 1)", "(n (, 1 1))", "(/ a b 1 1)"}) {
            Due.heaps("e", Due.ran(0, "x i i (? x 1 " + trap + ")", 1), 0, 0, 0, 0, 3);
            Due.heaps("f", Due.ran(0, "x i i (? x " + trap + " 1)", 0), 0, 0, 0, 0, 3);
        }
        Due.heaps("f only", Due.ran(0, "x i i (? x (n 1) (, 1 1))", 0), 0, 0, 0, 1, 5);
        Due.heaps("e only", Due.ran(0, "x i i (? x (n 1) (, 1 1))", 1), 1, 1, 0, 0, 4);
        Due.cells("e only", Due.ran(0, "x i i (: c (n 7) (? x (p c 8) (p c 9)))", 1), 8);
        Due.cells("f only", Due.ran(0, "x i i (: c (n 7) (? x (p c 8) (p c 9)))", 0), 9);
    }

    private static void order() {
        Due.cells(",", Due.ran(0, "x i i (, (n 1) (n 2))", 0), 1, 2);
        Due.cells(", in ,", Due.ran(0, "x i i (, (, (n 1) (n 2)) (n 3))", 0), 1, 2, 3);
        Due.cells("+ and the like", Due.ran(4, "x i i (+ (n 1) (n 2))", 0), 1, 2);
        Due.cells("-", Due.ran(4, "x i i (- (n 1) (n 2))", 0), 1, 2);
        Due.cells("*", Due.ran(4, "x i i (* (n 1) (n 2))", 0), 1, 2);
        Due.cells("<", Due.ran(4, "x i i (< (n 1) (n 2))", 0), 1, 2);
        Due.cells("p", Due.ran(4, "x i i (p (n 1) (n 2))", 0), 1, 2);
        Due.cells(":", Due.ran(0, "x i i (: y (n 1) (n 2))", 0), 1, 2);
        Due.cells("/", Due.ran(0, "x i i (/ a b (, (n 1) (n 2)) (n 3))", 0), 1, 2, 3);
        Due.cells("?", Due.ran(0, "x i i (: c (n 7) (? (d c) (n 1) 2))", 0), 1);
        Due.cells("@", Due.ran(0, "x i i (? x (@ 0 (: y (n 1) 0)) (n 2))", 1), 1, 2);
        // What an earlier part writes a later one reads, and not the other way round.
        Due.comesTo(50, "x i i (: c (n 2) (* (d (p c 5)) (: u (n 10) (d c))))", 0);
        Due.comesTo(25, "x i i (: c (n 2) (+ (/ a e (g (p c 5)) a) (/ a e (g c) (* a 4))))", 0);
        Due.comesTo(3, "x i i (: c (n 2) (+ (/ a e (g c) a) (: e (p c 1) (d c))))", 0);
        // The value of a variable is that of when it was bound.
        Due.comesTo(2, "x i i (: c (n 2) (/ a e (g c) (: e (p c 5) a)))", 0);
    }

    private static void endsAtOnce() {
        // Behind the trap nothing is begun, made, written or freed.
        Due.heaps("trap 4", Due.ran(4, "x i i (, (n 1) (, (d 5) (n 2)))", 0), 1, 1, 0, 0, 6);
        Due.heaps("trap 1", Due.ran(1, "x i i (: c (n 1) (, (d c) (, (d c) (n 2))))", 0), 0, 1, 1, 0, 9);
        Due.heaps("trap 1", Due.ran(1, "x i i (:a(n1)(:c(n2)(,(dc)(,(pc3)(da)))))", 0), 1, 2, 1, 0, 13);
        LinearCells x = Due.with(CELLS, "x i i (, (n 1) (: u (n 2) 3))");
        Due.is("trap 2", 2, Due.run(x, 0, 12));
        Due.heaps("trap 2", x, 12, 12, 0, 0, 12 * 9 + 4 + 3);
        x = Due.ran(3, "x i i (, (@ 0 x) (n 1))", 0);
        Due.heaps("trap 3", x, 0, 0, 0, 0, 24 * 3);
        // All that was done ahead of it stands.
        x = Due.ran(4, "x i i (: c (n 1) (: e (n 2) (: u (d c) (, (p e 9) (+ 1 (, 1 1))))))", 0);
        Due.cells("ahead of the trap", x, Due.OUT_OF_BOUNDS, 9);
    }

    private static void places() {
        String cells = "x i i (? x (: c (n x) (@ 0 (- x 1))) 7)";
        for (int n = 0; n <= 14; n++) {
            LinearCells x = Due.ran(n <= 12 ? 0 : 2, cells, n);
            int made = Math.min(n, 12);
            Due.heaps("run(0, " + n + ")", x, made, made, 0, 0);
            int[] numbers = new int[made];
            for (int place = 0; place < made; place++) {
                numbers[place] = n - place;
            }
            Due.cells("run(0, " + n + ")", x, numbers);
        }
        // More than 12 may be made if some are freed in between.
        Due.heaps("one after the other", Due.ran(0, "x i i (? x (: u (d (n x)) (@ 0 (- x 1))) 7)", 20), 0, 20, 20);
    }

    private static void lowestPlace() {
        // Makes the cells 12 .. 1, and goes on to 1 with the one whose number is looked for.
        String keep = "x i i (/kex(/ fc e(?k(:y(nk)(@0(,(-k1)(?(- k f)e(, f y)))))(@1 c))))";
        for (int p = 0; p < 12; p++) {
            LinearCells x = Due.with(keep, "x i i (: u (d x) (n 99))", "x i i (@ 0 (, 12 (, x 0)))");
            Due.is("run(2, " + (12 - p) + ")", 0, Due.run(x, 2, 12 - p));
            Due.values("the place that was freed", x, 2, p, 1, 0);
            Due.heaps("one freed and one more made", x, 12, 13, 1);
            for (int place = 0; place < 12; place++) {
                Due.is("cell(" + place + ")", place == p ? 99 : 12 - place, Due.cell(x, place));
            }
        }
        // Two are free: the lower one comes first, whichever was freed first.
        for (String frees : new String[] {"(:u(da)(:u(dc)", "(:u(dc)(:u(da)"}) {
            LinearCells x = Due.ran(0, "x i i (:a(n1)(:b(n2)(:c(n3)" + frees + "(,(n4)(,(n5)(n6))))))))", 0);
            Due.cells(frees, x, 4, 2, 5, 6);
        }
    }

    private static void freePlace() {
        for (String use : new String[] {"(g c)", "(p c 1)", "(d c)"}) {
            Due.ran(0, "x i i (: c (n x) " + use + ")", 5);
            LinearCells x = Due.ran(1, "x i i (: c (n x) (: u (d c) " + use + "))", 5);
            Due.heaps(use + " of a free place", x, 0, 1, 1, 0);
            // Another place that is not free is no help.
            Due.ran(1, "x i i (: e (n x) (: c (n x) (: u (d c) " + use + ")))", 5);
            Due.ran(1, "x i i (: c (n x) (: e (n x) (: u (d c) " + use + ")))", 5);
        }
        // p looks when both of its parts have their values.
        Due.ran(1, "x i i (: c (n x) (p c (d c)))", 5);
        Due.comesTo(5, "x i i (: c (n x) (d (p (: u (d c) (n 7)) 5)))", 1);
        // Only g, p and d look.
        Due.ran(0, "x i i (: c (n x) (: u (d c) (, c (, c c))))", 5);
        Due.values("a cell whose place is free", Due.ran(0, "x i i (: c (n x) (: u (d c) c))", 5), 2, 0, 1, 0);
    }

    private static void takenAgain() {
        // An old cell of the place and the new one are the same.
        Due.comesTo(9, "x i i (: c (n x) (: u (d c) (: e (n 9) (d c))))", 1);
        Due.comesTo(8, "x i i (: c (n x) (: u (d c) (: e (n 9) (: c (p c 8) (d e)))))", 1);
        Due.comesTo(9, "x i i (: c (n x) (: u (d c) (: e (n 9) (/ a b (g c) a))))", 1);
        for (String use : new String[] {"(g e)", "(p e 1)", "(d e)"}) {
            Due.ran(1, "x i i (: c (n x) (: u (d c) (: e (n 9) (: u (d c) " + use + "))))", 1);
        }
    }

    private static void noPlace() {
        LinearCells x = Due.with(CELLS, "x i i (n 5)");
        for (int n = 0; n <= 13; n++) {
            Due.is("run(0, " + n + ")", n <= 11 ? 0 : 2, Due.run(x, 0, n));
            Due.is("heap(1) behind run(0, " + n + ")", Math.min(n + 1, 12), Due.heap(x, 1));
        }
        // With one freed there is a place, once.
        Due.given(x, 1, "x i i (: c (n 5) (: u (d c) (n 6)))");
        Due.is("run(0, 11)", 0, Due.run(x, 0, 11));
        Due.is("cell(11)", 6, Due.cell(x, 11));
        Due.given(x, 1, "x i i (: c (n 5) (: u (d c) (: c (n 6) (n 7))))");
        Due.is("run(0, 11)", 2, Due.run(x, 0, 11));
        Due.is("cell(11)", 6, Due.cell(x, 11));
        // Its part comes first.
        Due.given(x, 1, "x i i (n (, 1 (n 1)))");
        Due.is("run(0, 12)", 2, Due.run(x, 0, 12));
        Due.is("heap(3)", 0, Due.heap(x, 3));
    }

    private static void mostPairs() {
        LinearCells x = Due.with(PAIRS, "x i i 7");
        Due.is("120 by ,", 0, Due.run(x, 0, 20));
        Due.is("heap(3)", 120, Due.heap(x, 3));
        for (String pair : new String[] {"(, x x)", "(g (n x))"}) {
            Due.given(x, 1, "x i i " + pair);
            Due.is("the 121st by " + pair, 2, Due.run(x, 0, 20));
            Due.is("heap(3)", 120, Due.heap(x, 3));
            Due.values("behind the trap", x, 0, 0, 0, 0);
            Due.given(x, 1, "x i i (, (, 1 1) (, (, 1 1) (, 1 " + pair + ")))");
            Due.is("the 120th by ,", 0, Due.run(x, 0, 19));
            Due.is("heap(3)", 120, Due.heap(x, 3));
            Due.given(x, 1, "x i i (, (, 1 1) (, (, 1 1) (, (, 1 1) " + pair + ")))");
            Due.is("the 121st by ,", 2, Due.run(x, 0, 19));
            Due.is("heap(3)", 120, Due.heap(x, 3));
        }
        // 1 and 19 * 6 pairs, five of each six by g, and then the last ones by g alone.
        String gets = "xii(/kcx(?k" + Due.times(5, "(/uc(gc)") + "(@0(,(-k1)c))" + Due.times(5, ")") + "(@2c)))";
        for (int more = 0; more <= 6; more++) {
            LinearCells y = Due.with(gets, "x i i (@ 0 (, x (n 3)))",
                "xii" + Due.times(more, "(/ux(gx)") + "(dx)" + Due.times(more, ")"));
            Due.is(more + " by g behind 115", more <= 5 ? 0 : 2, Due.run(y, 1, 19));
            Due.is("heap(3)", Math.min(115 + more, 120), Due.heap(y, 3));
            Due.is("value(1)", more <= 5 ? 3 : 0, Due.value(y, 1));
        }
        // The trap comes when the parts have their values.
        Due.given(x, 1, "x i i (, (n 1) (n 2))");
        Due.is("both parts come first", 2, Due.run(x, 0, 20));
        Due.is("heap(1)", 2, Due.heap(x, 1));
    }

    private static void pairsOfThisRun() {
        LinearCells x = Due.with(PAIRS, "x i i 7");
        for (int i = 0; i < 3; i++) {
            Due.is("run(0, 20)", 0, Due.run(x, 0, 20));
            Due.is("heap(3)", 120, Due.heap(x, 3));
            Due.is("run(0, 21)", 2, Due.run(x, 0, 21));
            Due.is("heap(3)", 120, Due.heap(x, 3));
            Due.is("run(0, 1)", 0, Due.run(x, 0, 1));
            Due.is("heap(3)", 6, Due.heap(x, 3));
        }
    }

    /** An expression that begins so many, itself among them. */
    private static String filler(int begun) {
        return begun % 2 == 0 ? "(n" + filler(begun - 1) + ")" : Due.sum(Collections.nCopies(begun / 2 + 1, "x"));
    }

    private static void mostExpressions() {
        LinearCells x = withCalls("xii" + MOST);
        Due.is("run(1, 1)", 0, Due.run(x, 1, 1));
        Due.is("heap(4)", 31, Due.heap(x, 4));
        Due.is("run(2, 1)", 0, Due.run(x, 2, 1));
        Due.is("heap(4)", 7 * 33 + 6, Due.heap(x, 4));
        Due.is("run(3, 1)", 0, Due.run(x, 3, 1));
        Due.is("heap(4)", 1987, Due.heap(x, 4));
        // The last one may be of any kind, and so may the one that is too many.
        String[] lasts = {"x", "7", "(nx)", "(+1x)", "(:yxy)", "(?xx1)", "(/ab(,xx)a)", "(@0x)", "(g(nx))"};
        int[] begun = {1, 1, 2, 3, 3, 3, 5, 3, 3};
        for (int i = 0; i < lasts.length; i++) {
            endsAfter(0, 1999, filler(10 - begun[i]) + lasts[i]);
            endsAfter(0, 2000, filler(11 - begun[i]) + lasts[i]);
            endsAfter(3, 2000, filler(12 - begun[i]) + lasts[i]);
        }
        // No run ends by what an earlier one began.
        for (int i = 0; i < 3; i++) {
            Due.is("run(3, 1) once more", 0, Due.run(x, 3, 1));
            Due.is("heap(4)", 1987, Due.heap(x, 4));
        }
    }

    private static LinearCells withCalls(String text) {
        return Due.with("x i i x", "xii" + filler(31), "xii" + Due.sum(Collections.nCopies(7, "(@1x)")), text);
    }

    private static void endsAfter(int trap, int begun, String rest) {
        String text = "xii(," + MOST + "(," + rest + "))";
        LinearCells x = withCalls(text);
        Due.is("run of '" + text + "'", trap, Due.run(x, 3, 1));
        Due.is("heap(4) of '" + text + "'", begun, Due.heap(x, 4));
        Due.is("value(0) of '" + text + "'", trap == 0 ? 3 : 0, Due.value(x, 0));
    }

    private static void deepest() {
        LinearCells x = Due.with("x i i (? x (@ 0 (- x 1)) 5)", "x i i (@ 0 x)", "x i i (+ (@ 0 x) (@ 0 x))");
        for (int n = 22; n <= 25; n++) {
            Due.is("one calls itself: run(0, " + n + ")", n <= 23 ? 0 : 3, Due.run(x, 0, n));
            Due.is("heap(4)", n <= 23 ? 6 * n + 3 : 24 * 6, Due.heap(x, 4));
            Due.is("called by another: run(1, " + n + ")", n <= 22 ? 0 : 3, Due.run(x, 1, n));
            // Behind its value a procedure is not open any more.
            Due.is("twice: run(2, " + n + ")", n <= 22 ? 0 : 3, Due.run(x, 2, n));
        }
        Due.is("a negative number does not come to 0", 3, Due.run(x, 0, -1));
        LinearCells ring = Due.with("x i i (? x (@ 1 (- x 1)) 5)", "x i i (? x (@ 2 (- x 1)) 5)",
            "x i i (? x (@ 3 (- x 1)) 5)", "x i i (? x (@ 0 (- x 1)) 5)");
        for (int k = 0; k < 4; k++) {
            Due.is("a ring: run(" + k + ", 23)", 0, Due.run(ring, k, 23));
            Due.is("a ring: run(" + k + ", 24)", 3, Due.run(ring, k, 24));
        }
        // How deep the expressions lie is another matter: 24 procedures, 16 deep each.
        String deep = "xii" + Due.times(13, "(+1") + "(?x(@0(-x1))0)" + Due.times(13, ")");
        Due.comesTo(24 * 13, deep, 23);
        Due.ran(3, deep, 24);
        // Many calls beside one another are not deep.
        LinearCells y = Due.with("xii" + Due.sum(Collections.nCopies(14, "(@1x)")),
            "xii" + Due.sum(Collections.nCopies(3, "(@2x)")), "xiix");
        Due.is("56 calls", 0, Due.run(y, 0, 2));
        Due.is("value(1)", 84, Due.value(y, 1));
        // The part of the call that goes too deep has its value first.
        Due.heaps("its part", Due.ran(3, "x i i (@ 0 (: u (d (n x)) x))", 0), 0, 24, 24, 0, 24 * 6);
        Due.ran(4, "x i i (@ 0 (? x (- x 1) (d x)))", 23);
        Due.ran(3, "x i i (@ 0 (? x (- x 1) (d x)))", 24);
    }

    private static void wrongParts() {
        for (int i = 0; i < PARTS.length; i++) {
            for (int j = 0; j < PARTS.length; j++) {
                String parts = PARTS[i] + " " + PARTS[j];
                for (String form : new String[] {"+", "-", "*", "<"}) {
                    Due.ran(i == 0 && j == 0 ? 0 : 4, "x i i (" + form + " " + parts + ")", 1);
                }
                Due.ran(i == 1 && j == 0 ? 0 : 4, "x i i (p " + parts + ")", 1);
                Due.ran(0, "x i i (, " + parts + ")", 1);
                Due.ran(0, "x i i (: y " + parts + ")", 1);
                Due.ran(0, "x i i (? x " + parts + ")", 1);
                Due.ran(0, "x i i (? x " + parts + ")", 0);
                Due.ran(i == 2 ? 0 : 4, "x i i (/ a b " + parts + ")", 1);
            }
            Due.ran(i == 0 ? 0 : 4, "x i i (n " + PARTS[i] + ")", 1);
            Due.ran(i == 1 ? 0 : 4, "x i i (g " + PARTS[i] + ")", 1);
            Due.ran(i == 1 ? 0 : 4, "x i i (d " + PARTS[i] + ")", 1);
            Due.ran(i == 0 ? 0 : 4, "x i i (? " + PARTS[i] + " 1 1)", 1);
            LinearCells x = Due.with("x i i (@ 1 " + PARTS[i] + ")", "x i i x");
            Due.is("a call takes any part", 0, Due.run(x, 0, 1));
            Due.is("value(0)", i + 1, Due.value(x, 0));
        }
        // A number is no place, though there is a cell in it, and a place is no number.
        Due.ran(4, "x i i (: c (n 5) (d 0))", 0);
        Due.ran(4, "x i i (: c (n 5) (+ 1 c))", 0);
    }

    private static void behindAllParts() {
        for (String form : new String[] {"+", "-", "*", "<"}) {
            Due.heaps(form, Due.ran(4, "x i i (" + form + " (n 1) (n 2))", 0), 2, 2, 0, 0, 5);
            Due.heaps(form, Due.ran(4, "x i i (" + form + " (, 1 1) (d (n 2)))", 0), 0, 1, 1, 1, 7);
        }
        Due.heaps("p", Due.ran(4, "x i i (p 1 (d (n 2)))", 0), 0, 1, 1, 0, 5);
        Due.heaps("p", Due.ran(4, "x i i (p (, 1 1) (n 2))", 0), 1, 1, 0, 1, 6);
        // Nothing is written by a p that traps.
        Due.cells("p", Due.ran(4, "x i i (: c (n 7) (p c (, 1 1)))", 0), 7);
        // A trap of a later part comes ahead of one that a wrong earlier part makes.
        Due.ran(1, "x i i (: c (n 1) (: u (d c) (+ c (d c))))", 0);
        Due.ran(3, "x i i (+ (, 1 1) (@ 0 x))", 0);
    }

    private static void aheadOfOneAndTwo() {
        // p: the cell's place is free, and the number is none.
        Due.ran(4, "x i i (: c (n 1) (: u (d c) (p c (n 1))))", 0);
        Due.ran(4, "x i i (: c (n 1) (: u (d c) (p c (, 1 1))))", 0);
        Due.ran(1, "x i i (: c (n 1) (: u (d c) (p c 1)))", 0);
        // n: no place is free, and its part is no number.
        LinearCells x = Due.with(CELLS, "x i i (n (, 1 1))");
        Due.is("n of a pair, no place is free", 4, Due.run(x, 0, 12));
        Due.given(x, 1, "x i i (n 1)");
        Due.is("n of a number, no place is free", 2, Due.run(x, 0, 12));
        // g: 120 pairs have been made, and its part is no cell.
        LinearCells y = Due.with(PAIRS, "x i i (g 1)");
        Due.is("g of a number behind 120 pairs", 4, Due.run(y, 0, 20));
        Due.given(y, 1, "x i i (g (n 1))");
        Due.is("g of a cell behind 120 pairs", 2, Due.run(y, 0, 20));
    }

    private static void atOnce() {
        for (String part : new String[] {"(n 1)", "(, 1 1)"}) {
            int begun = part.equals("(n 1)") ? 3 : 4;
            LinearCells x = Due.ran(4, "x i i (? " + part + " (n 2) (n 3))", 0);
            Due.is("heap(4) of ? with " + part, begun, Due.heap(x, 4));
        }
        Due.heaps("/ of a number", Due.ran(4, "x i i (/ a b 1 (n 3))", 0), 0, 0, 0, 0, 2);
        Due.heaps("/ of a cell", Due.ran(4, "x i i (/ a b (n 1) (n 3))", 0), 1, 1, 0, 0, 3);
        // A trap that the next part would meet is not met.
        Due.ran(4, "x i i (? (n 1) (@ 0 x) (@ 0 x))", 0);
        Due.ran(4, "x i i (/ a b 1 (@ 0 x))", 0);
        Due.ran(4, "x i i (: c (n 1) (: u (d c) (? c (d c) (d c))))", 0);
        Due.ran(4, "x i i (: c (n 1) (: u (d c) (/ a b c (d c))))", 0);
    }

    private static void notThere() {
        for (int k = 1; k <= 3; k++) {
            Due.heaps("@ " + k, Due.ran(4, "x i i (@ " + k + " (n 1))", 0), 1, 1, 0, 0, 3);
            Due.ran(1, "x i i (@ " + k + " (: c (n 1) (: u (d c) (d c))))", 0);
            Due.ran(3, "x i i (@ " + k + " (@ 0 x))", 0);
            Due.ran(0, "x i i (? x 1 (@ " + k + " x))", 1);
            Due.heaps("@ " + k, Due.ran(4, "x i i (, (n 1) (@ " + k + " 1))", 0), 1, 1, 0, 0, 5);
        }
        // It is there as soon as it is defined.
        LinearCells x = Due.with("x i i (@ 1 x)");
        Due.is("ahead of define(1)", 4, Due.run(x, 0, 5));
        Due.is("a refused define(1)", Due.UNSUPPORTED, Due.defined(x, 1, "x i i y"));
        Due.is("behind a refused define(1)", 4, Due.run(x, 0, 5));
        Due.given(x, 1, "x i i x");
        Due.is("behind define(1)", 0, Due.run(x, 0, 5));
        // What is not there is never entered, so it is not too deep.
        Due.ran(4, "x i i (? x (@ 0 (- x 1)) (@ 1 x))", 23);
    }

    private static void getOfFreePlace() {
        LinearCells x = Due.with(PAIRS, "x i i (: c (n 4) (: u (d c) (g c)))");
        Due.is("g of a free place behind 120 pairs", 1, Due.run(x, 0, 20));
        Due.is("heap(3)", 120, Due.heap(x, 3));
        Due.is("g of a free place behind 114 pairs", 1, Due.run(x, 0, 19));
        Due.is("heap(3)", 114, Due.heap(x, 3));
        Due.given(x, 1, "x i i (: c (n 4) (g c))");
        Due.is("g of a cell behind 120 pairs", 2, Due.run(x, 0, 20));
        Due.is("g of a cell behind 114 pairs", 0, Due.run(x, 0, 19));
        Due.is("heap(3)", 115, Due.heap(x, 3));
    }

    private static void emptyHeap() {
        LinearCells x = Due.with(CELLS, "x i i 7", "x i i (n x)", "x i i (d x)");
        Due.is("run(0, 12)", 0, Due.run(x, 0, 12));
        Due.is("heap(0)", 12, Due.heap(x, 0));
        Due.is("run(2, 5)", 0, Due.run(x, 2, 5));
        Due.heaps("behind a full heap", x, 1, 1, 0, 0, 2);
        Due.cells("behind a full heap", x, 5);
        Due.is("run(0, 13)", 2, Due.run(x, 0, 13));
        Due.is("run(1, 0)", 0, Due.run(x, 1, 0));
        Due.heaps("behind a trap", x, 0, 0, 0, 0, 1);
        Due.cells("behind a trap", x);
        Due.is("run(2, 6)", 0, Due.run(x, 2, 6));
        Due.is("run(3, 0)", 4, Due.run(x, 3, 0));
        Due.heaps("a run that traps empties it, too", x, 0, 0, 0, 0, 2);
        Due.cells("a run that traps empties it, too", x);
    }

    private static void answers() {
        LinearCells x = Due.with("x i i (? x x (n 1))", "x i i (: c (n x) (, (d c) (d c)))",
            "x i i (: c (n x) (@ 2 x))", "x i i (@ 3 (? x x (d x)))");
        int[][] runs = {{0, 1, 0}, {0, 0, 0}, {1, 1, 1}, {2, 1, 2}, {3, 1, 3}, {3, 0, 4}};
        for (int[] earlier : runs) {
            for (int[] later : runs) {
                Due.is("run(" + earlier[0] + ", " + earlier[1] + ")", earlier[2], Due.run(x, earlier[0], earlier[1]));
                Due.is("run(" + later[0] + ", " + later[1] + ") behind it", later[2], Due.run(x, later[0], later[1]));
            }
        }
    }

    private static void none() {
        LinearCells x = new LinearCells();
        for (int k : new int[] {Integer.MIN_VALUE, -1, 0, 1, 2, 3, 4, Integer.MAX_VALUE}) {
            Due.is("run(" + k + ", 0) of a new object", Due.ILLEGAL_STATE, Due.run(x, k, 0));
        }
        for (int k = 0; k <= 3; k++) {
            Due.given(x, k, "x i i x");
            for (int other = 0; other <= 3; other++) {
                Due.is("run(" + other + ", 1) behind define(" + k + ")", other <= k ? 0 : Due.ILLEGAL_STATE,
                    Due.run(x, other, 1));
            }
        }
        for (int k : new int[] {Integer.MIN_VALUE, -4, -1, 4, 5, 32, 256, Integer.MAX_VALUE}) {
            Due.is("run(" + k + ", 0) with all four", Due.ILLEGAL_STATE, Due.run(x, k, 0));
        }
    }
}
