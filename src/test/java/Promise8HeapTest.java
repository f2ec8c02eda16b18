/** Promise 8: what the latest run did with the heap. */
public final class Promise8HeapTest {
    public static void main(String[] args) {
        wrongQuestions();
        ordinary();
        trapped();
        eachRunAnew();
        staysUntilTheNextRun();
        Due.end();
    }

    private static void gives(int trap, String text, int... want) {
        LinearCells x = Due.with(text);
        Due.is("run of '" + text + "'", trap, Due.run(x, 0, 5));
        Due.heaps("'" + text + "'", x, want);
    }

    private static void wrongQuestions() {
        LinearCells x = new LinearCells();
        for (int what : new int[] {-1, 5, 6, Integer.MIN_VALUE, Integer.MAX_VALUE}) {
            Due.is("heap(" + what + ") without a run", Due.ILLEGAL_ARGUMENT, Due.heap(x, what));
        }
        Due.given(x, 0, "x i (i r) (g (n x))");
        Due.is("run", 0, Due.run(x, 0, 3));
        for (int what : new int[] {-1, 5, 6, Integer.MIN_VALUE, Integer.MAX_VALUE}) {
            Due.is("heap(" + what + ")", Due.ILLEGAL_ARGUMENT, Due.heap(x, what));
        }
        Due.heaps("behind them", x, 1, 1, 0, 1, 3);
    }

    private static void ordinary() {
        gives(0, "x i i x", 0, 0, 0, 0, 1);
        gives(0, "x i r (n x)", 1, 1, 0, 0, 2);
        gives(0, "x i i (d (n x))", 0, 1, 1, 0, 3);
        gives(0, "x i i (d (p (n x) 8))", 0, 1, 1, 0, 5);
        gives(0, "x i (i r) (g (n x))", 1, 1, 0, 1, 3);
        gives(0, "x i (i i) (, x x)", 0, 0, 0, 1, 3);
        gives(0, "x i i (, (n 1) (, (d (n 2)) (n 3)))", 2, 3, 1, 2, 9);
        gives(0, "x i i (? x 1 (+ x (n 2)))", 0, 0, 0, 0, 3);
        gives(0, "x i i (? x (@ 0 (- x 1)) (d (n 2)))", 0, 1, 1, 0, 5 * 6 + 5);
        gives(0, "x i i (/ a b (, x x) (: c a (< b c)))", 0, 0, 0, 1, 9);
    }

    private static void trapped() {
        gives(4, "x i i (d x)", 0, 0, 0, 0, 2);
        gives(1, "x i i (: c (n x) (, (d c) (d c)))", 0, 1, 1, 0, 8);
        gives(4, "x i i (, (, (n x) (n x)) (d 1))", 2, 2, 0, 1, 8);
        gives(1, "x i i (: c (n x) (: u (d c) (g c)))", 0, 1, 1, 0, 8);
        gives(3, "x i i (: c (n x) (@ 0 (d c)))", 0, 24, 24, 0, 24 * 6);
        gives(2, "x i i (: c (n x) (@ 0 x))", 12, 12, 0, 0, 12 * 5 + 3);
        gives(3, "x i i (@ 0 x)", 0, 0, 0, 0, 48);
    }

    private static void eachRunAnew() {
        LinearCells x = Due.with("x i i (, (n 1) (, (d (n 2)) (n 3)))");
        for (int i = 0; i < 3; i++) {
            Due.is("run(0, 5)", 0, Due.run(x, 0, 5));
            Due.heaps("run(0, 5) once more", x, 2, 3, 1, 2, 9);
        }
    }

    private static void staysUntilTheNextRun() {
        LinearCells x = Due.with("x i (i r) (, x (n 2))", "", "x i i 3");
        Due.is("run", 0, Due.run(x, 0, 5));
        Due.given(x, 0, "x i i 3");
        Due.is("run of none", Due.ILLEGAL_STATE, Due.run(x, 1, 5));
        Due.is("sound", true, x.sound(0));
        Due.is("typed", 1, Due.typed(x, 0));
        Due.heaps("the latest run", x, 1, 1, 0, 1, 4);
        Due.is("run(2, 0)", 0, Due.run(x, 2, 0));
        Due.heaps("the next run", x, 0, 0, 0, 0, 1);
    }
}
