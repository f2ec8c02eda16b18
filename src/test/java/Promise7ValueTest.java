/** Promise 7: what the value of the latest run is. */
public final class Promise7ValueTest {
    public static void main(String[] args) {
        wrongQuestions();
        ordinary();
        firstNumber();
        trapped();
        sharedParts();
        countsGoRound();
        staysUntilTheNextRun();
        Due.end();
    }

    private static void gives(String text, int n, int... want) {
        LinearCells x = Due.with(text);
        Due.is("run of '" + text + "'", 0, Due.run(x, 0, n));
        Due.values("'" + text + "'", x, want);
    }

    private static void wrongQuestions() {
        LinearCells x = new LinearCells();
        for (int what : new int[] {-1, 4, 5, Integer.MIN_VALUE, Integer.MAX_VALUE}) {
            Due.is("value(" + what + ") without a run", Due.ILLEGAL_ARGUMENT, Due.value(x, what));
        }
        Due.given(x, 0, "x i i x");
        Due.is("run", 0, Due.run(x, 0, 3));
        for (int what : new int[] {-1, 4, 5, Integer.MIN_VALUE, Integer.MAX_VALUE}) {
            Due.is("value(" + what + ")", Due.ILLEGAL_ARGUMENT, Due.value(x, what));
        }
        Due.values("behind them", x, 1, 3, 0, 1);
    }

    private static void ordinary() {
        gives("x i i x", 5, 1, 5, 0, 1);
        gives("x i i x", 0, 1, 0, 0, 1);
        gives("x i i x", -1, 1, -1, 0, 1);
        gives("x i i x", Integer.MIN_VALUE, 1, Integer.MIN_VALUE, 0, 1);
        gives("x i r (n x)", 5, 2, 0, 1, 0);
        gives("x i r (: a (n x) (: b (n x) (n x)))", 5, 2, 2, 1, 0);
        gives("x i (i i) (, x 8)", 5, 3, 5, 0, 2);
        gives("x i (i r) (g (n x))", 5, 3, 5, 1, 1);
        gives("x i (i (i r)) (, x (g (n 7)))", 5, 3, 5, 1, 2);
    }

    private static void firstNumber() {
        gives("x i (r i) (, (n 4) x)", 5, 3, 5, 1, 1);
        gives("x i (r r) (, (n 4) (n x))", 5, 3, 0, 2, 0);
        gives("x i i (, (, (n 1) (n 2)) (, (n 3) x))", 5, 3, 5, 3, 1);
        gives("x i i (, (, (n 1) 9) (, x 8))", 5, 3, 9, 1, 3);
        gives("x i i (, (n 3) (, (, (n 1) x) 8))", -5, 3, -5, 2, 2);
        gives("x i i (, 0 x)", 5, 3, 0, 0, 2);
    }

    private static void trapped() {
        LinearCells x = Due.with("x i i (, 7 (n 3))", "x i i (, 7 (d (n x)))", "x i i (d x)");
        Due.is("run(0, 5)", 0, Due.run(x, 0, 5));
        Due.values("run(0, 5)", x, 3, 7, 1, 1);
        Due.is("run(2, 5)", 4, Due.run(x, 2, 5));
        Due.values("run(2, 5)", x, 0, 0, 0, 0);
        Due.is("run(1, 5)", 0, Due.run(x, 1, 5));
        Due.values("run(1, 5)", x, 3, 7, 0, 2);
    }

    private static void sharedParts() {
        gives("x i i (: c (n x) (, c (, c c)))", 5, 3, 0, 3, 0);
        gives("x i i (: y (, x (n 1)) (, y y))", 5, 3, 5, 2, 2);
        // A freed cell is one still.
        gives("x i i (: c (n x) (, (d c) c))", 5, 3, 5, 1, 1);
    }

    private static void countsGoRound() {
        // One call doubles a pair four times; the first one has a number and a cell.
        String begin = "x i i (/kyx(?k(:y(,yy)(:y(,yy)(:y(,yy)(:y(,yy)(@0(,(-k1)y))))))";
        String doubling = begin + "y))";
        int[] numbers = {1, 1 << 4, 1 << 8, 1 << 12, 1 << 16, 1 << 20, 1 << 24, 1 << 28, 0, 0};
        for (int k = 0; k < numbers.length; k++) {
            LinearCells x = Due.with(doubling, "x i i (@ 0 (, x (, (n 1) 6)))");
            Due.is("run(1, " + k + ")", 0, Due.run(x, 1, k));
            Due.values("run(1, " + k + ")", x, 3, 6, numbers[k], numbers[k]);
        }
        LinearCells y = Due.with(doubling, "x i i (@ 0 (, x (, 4 (, 5 6))))");
        Due.is("run(1, 7)", 0, Due.run(y, 1, 7));
        Due.values("run(1, 7)", y, 3, 4, 0, 3 << 28);
        LinearCells z = Due.with(begin + "(,(n1)y)))", "x i i (@ 0 (, x 6))");
        Due.is("run(1, 8)", 0, Due.run(z, 1, 8));
        Due.values("a number is found although its count is 0", z, 3, 6, 1, 0);
        LinearCells u = Due.with(begin + "(,y9)))", "x i i (@ 0 (, x 6))");
        Due.is("run(1, 8)", 0, Due.run(u, 1, 8));
        Due.values("in the first part, too", u, 3, 6, 0, 1);
    }

    private static void staysUntilTheNextRun() {
        LinearCells x = Due.with("x i (i r) (, x (n 2))");
        Due.is("run", 0, Due.run(x, 0, 5));
        Due.given(x, 0, "x i i 3");
        Due.is("run of none", Due.ILLEGAL_STATE, Due.run(x, 1, 5));
        Due.is("sound", true, x.sound(0));
        Due.is("typed", 1, Due.typed(x, 0));
        Due.values("the latest run", x, 3, 5, 1, 1);
        Due.values("once more", x, 3, 5, 1, 1);
    }
}
