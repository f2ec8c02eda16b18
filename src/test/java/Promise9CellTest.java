/** Promise 9: the number in a place's cell. */
public final class Promise9CellTest {
    public static void main(String[] args) {
        noPlaces();
        ordinary();
        allTwelve();
        trapped();
        staysUntilTheNextRun();
        Due.end();
    }

    private static void noPlaces() {
        LinearCells x = Due.with("x i r (? x (: c (n x) (@ 0 (- x 1))) 7)");
        for (int run = 0; run < 2; run++) {
            for (int place : new int[] {-1, 12, 13, Integer.MIN_VALUE, Integer.MAX_VALUE}) {
                Due.is("cell(" + place + ")", Due.OUT_OF_BOUNDS, Due.cell(x, place));
            }
            Due.is("run(0, 12)", 0, Due.run(x, 0, 12));
        }
    }

    private static void ordinary() {
        LinearCells x = Due.with("x i r (n x)", "x i i (: a (n 1) (: b (n 2) (: c (n 3) (d b))))",
            "x i i (: a (n 1) (p (p (n 2) x) (+ x 1)))", "x i i (: a (n 1) (: u (d a) (n x)))");
        Due.cells("no run", x);
        for (int n : new int[] {0, 5, -5, Integer.MIN_VALUE, Integer.MAX_VALUE}) {
            Due.is("run(0, " + n + ")", 0, Due.run(x, 0, n));
            Due.cells("run(0, " + n + ")", x, n);
        }
        Due.is("run(1, 0)", 0, Due.run(x, 1, 0));
        Due.cells("run(1, 0)", x, 1, Due.OUT_OF_BOUNDS, 3);
        Due.is("run(2, 7)", 0, Due.run(x, 2, 7));
        Due.cells("run(2, 7)", x, 1, 8);
        Due.is("run(3, 7)", 0, Due.run(x, 3, 7));
        Due.cells("run(3, 7)", x, 7);
    }

    private static void allTwelve() {
        LinearCells x = Due.with("x i r (? x (: c (n x) (@ 0 (- x 1))) 7)");
        Due.is("run(0, 12)", 0, Due.run(x, 0, 12));
        Due.cells("run(0, 12)", x, 12, 11, 10, 9, 8, 7, 6, 5, 4, 3, 2, 1);
    }

    private static void trapped() {
        LinearCells x = Due.with("x i i (: a (n x) (: b (n 2) (: u (d a) (d a))))", "x i i (: c (n x) (@ 1 (+ x 1)))");
        Due.is("run(0, 5)", 1, Due.run(x, 0, 5));
        Due.cells("run(0, 5)", x, Due.OUT_OF_BOUNDS, 2);
        Due.is("run(1, 5)", 2, Due.run(x, 1, 5));
        Due.cells("run(1, 5)", x, 5, 6, 7, 8, 9, 10, 11, 12, 13, 14, 15, 16);
    }

    private static void staysUntilTheNextRun() {
        LinearCells x = Due.with("x i r (n x)", "", "x i i 3");
        Due.is("run", 0, Due.run(x, 0, 5));
        Due.given(x, 0, "x i i 3");
        Due.is("run of none", Due.ILLEGAL_STATE, Due.run(x, 1, 5));
        Due.is("sound", true, x.sound(0));
        Due.cells("the latest run", x, 5);
        Due.is("run(2, 0)", 0, Due.run(x, 2, 0));
        Due.cells("the next run", x);
    }
}
