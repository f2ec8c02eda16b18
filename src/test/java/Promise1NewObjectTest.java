/** Promise 1: a new object has no procedures, an empty draft and no run. */
public final class Promise1NewObjectTest {
    public static void main(String[] args) {
        noProcedures();
        emptyDraft();
        noRun();
        nothingIsShared();
        Due.end();
    }

    private static void noProcedures() {
        LinearCells x = new LinearCells();
        for (int k = -1; k <= 4; k++) {
            Due.is("sound(" + k + ")", false, x.sound(k));
            Due.is("typed(" + k + ")", Due.ILLEGAL_STATE, Due.typed(x, k));
            Due.is("run(" + k + ", 1)", Due.ILLEGAL_STATE, Due.run(x, k, 1));
        }
    }

    private static void emptyDraft() {
        LinearCells x = new LinearCells();
        Due.is("define of nothing", Due.ILLEGAL_ARGUMENT, Due.defined(x, 0));
        LinearCells y = new LinearCells();
        Due.draft(y, Due.times(120, " "));
        Due.is("the 121st character", false, y.draft(' '));
    }

    private static void noRun() {
        LinearCells x = new LinearCells();
        Due.values("no run", x, 0, 0, 0, 0);
        Due.heaps("no run", x, 0, 0, 0, 0, 0);
        for (int place = -1; place <= 12; place++) {
            Due.is("cell(" + place + ")", Due.OUT_OF_BOUNDS, Due.cell(x, place));
        }
    }

    private static void nothingIsShared() {
        LinearCells x = Due.with("x i r (n x)");
        Due.is("run(0, 7)", 0, Due.run(x, 0, 7));
        Due.draft(x, "x i i x");
        LinearCells y = new LinearCells();
        Due.is("sound(0) of another object", false, y.sound(0));
        Due.heaps("another object", y, 0, 0, 0, 0, 0);
        Due.is("cell(0) of another object", Due.OUT_OF_BOUNDS, Due.cell(y, 0));
        Due.is("define of nothing", Due.ILLEGAL_ARGUMENT, Due.defined(y, 0));
        Due.is("define of the first one's draft", 1, Due.defined(x, 1));
        Due.is("cell(0) of the first one", 7, Due.cell(x, 0));
    }
}
