/** Promise 3: define() makes the draft a procedure. */
public final class Promise3DefineTest {
    public static void main(String[] args) {
        counts();
        signs();
        numbers();
        types();
        forms();
        depths();
        callees();
        names();
        procedureNumbers();
        emptiesTheDraft();
        replaces();
        Due.end();
    }

    private static void counts() {
        Due.takes(1, "x i i 1");
        Due.takes(1, "x i i x");
        Due.takes(3, "x i i (+ x 1)");
        Due.takes(3, "x i i (- x 1)");
        Due.takes(3, "x i i (* x 1)");
        Due.takes(3, "x i i (< x 1)");
        Due.takes(4, "x i i (? x 1 2)");
        Due.takes(3, "x i i (: y x y)");
        Due.takes(3, "x i (i i) (, x x)");
        Due.takes(3, "x (i i) i (/ y z x y)");
        Due.takes(2, "x i r (n x)");
        Due.takes(2, "x r (i r) (g x)");
        Due.takes(3, "x r r (p x 1)");
        Due.takes(2, "x r i (d x)");
        Due.takes(2, "x i i (@ 3 x)");
        Due.takes(70, "xii" + Due.times(11, "(?x") + "(?xxx)" + Due.times(11, "(?xxx))"));
    }

    private static void signs() {
        Due.takes(1, "xiix");
        Due.takes(3, "xii(+x1)");
        Due.takes(3, "x   i  i (   + x     1   )");
        Due.takes(5, "x(ir)(ri)(/abx(,ba))");
        Due.refuses("");
        Due.refuses("      ");
        Due.refuses("x");
        Due.refuses("x i");
        Due.refuses("x i i");
        Due.refuses("x i i x x");
        Due.refuses("x i i x)");
        Due.refuses("x i i (+ x 1");
        Due.refuses("x i i (+ x 1))");
        Due.refuses("x i i +");
        Due.refuses("x i i ()");
        Due.refuses("x i i (x)");
        Due.refuses("x i i (1)");
        Due.refuses("x i i ((+ x 1))");
        Due.refuses("1 i i x");
        Due.refuses("( i i x");
        Due.refuses("+ i i x");
        for (char other : "!\"#$%&'.;=>ABCXYZ[\\]^_`{|}~".toCharArray()) {
            Due.refuses("x i i x" + other);
            Due.refuses("x i i " + other);
            Due.refuses("x i i (" + other + " x x)");
            Due.refuses(other + " i i x");
        }
    }

    private static void numbers() {
        Due.takes(1, "x i i 0");
        Due.takes(1, "x i i 9999");
        Due.takes(1, "x i i 0000");
        Due.takes(3, "x i i (+ 1234 5678)");
        Due.refuses("x i i 12345");
        Due.refuses("x i i 00001");
        Due.refuses("x i i (+ 12345)");
        Due.refuses("x i i (+ 12345 6)");
        Due.refuses("x i i (+ 12 34 5)");
        Due.refuses("x i i (+ 1234)");
        Due.refuses("x i i -1");
        Due.refuses("x i i 1 2");
        LinearCells x = Due.with("x i i (- 0102 0009)");
        Due.is("run", 0, Due.run(x, 0, 0));
        Due.is("value(1)", 93, Due.value(x, 1));
    }

    private static void types() {
        Due.takes(1, "x r r x");
        Due.takes(1, "x (i i) (r r) x");
        Due.takes(1, "x ((i r) (r i)) i 1");
        Due.refuses("x x i 1");
        Due.refuses("x n i 1");
        Due.refuses("x i 1 1");
        Due.refuses("x () i 1");
        Due.refuses("x (i) i 1");
        Due.refuses("x (i i i) i 1");
        Due.refuses("x (i i i 1");
        Due.refuses("x i (i i 1");
        Due.refuses("x i i) 1");
    }

    private static void forms() {
        for (String form : new String[] {"+", "-", "*", "<", ",", "p"}) {
            Due.refuses("x i i (" + form + ")");
            Due.refuses("x i i (" + form + " x)");
            Due.takes(3, "x i i (" + form + " x 1)");
            Due.refuses("x i i (" + form + " x 1 2)");
        }
        for (String form : new String[] {"n", "g", "d"}) {
            Due.refuses("x i i (" + form + ")");
            Due.takes(2, "x i i (" + form + " x)");
            Due.refuses("x i i (" + form + " x 1)");
        }
        for (char letter = 'a'; letter <= 'z'; letter++) {
            if ("ngpd".indexOf(letter) < 0) {
                Due.refuses("x i i (" + letter + " x)");
                Due.refuses("x i i (" + letter + " x x)");
            }
        }
        Due.refuses("x i i (? x 1)");
        Due.refuses("x i i (? x 1 2 3)");
        Due.refuses("x i i (: x 1)");
        Due.refuses("x i i (: 1 x 1)");
        Due.refuses("x i i (: y x 1 2)");
        Due.refuses("x i i (: (n 1) x 1)");
        Due.refuses("x i i (/ a x 1)");
        Due.refuses("x i i (/ a b x)");
        Due.refuses("x i i (/ a 1 x 1)");
        Due.refuses("x i i (/ 1 a x 1)");
        Due.refuses("x i i (/ a a x 1)");
        Due.refuses("x i i (/ x x x x)");
        Due.takes(3, "x i i (/ a x x 1)");
        Due.refuses("x i i (@ x)");
        Due.refuses("x i i (@ x 1)");
        Due.refuses("x i i (@ 1)");
        Due.refuses("x i i (@ 1 2 3)");
    }

    private static void depths() {
        Due.takes(1, "x i ((((i i) i) i) i) x");
        Due.takes(1, "x (i (i (i (i r)))) i 1");
        Due.refuses("x i (((((i i) i) i) i) i) x");
        Due.refuses("x (i (i (i (i (i r))))) i 1");
        String four = "(((ii)(ii))((ii)(ii)))";
        Due.takes(1, "x" + "(" + four + four + ")" + "(" + four + four + ")" + "1");
        Due.takes(17, "x i i " + Due.times(16, "(n ") + "x" + Due.times(16, ")"));
        Due.refuses("x i i " + Due.times(17, "(n ") + "x" + Due.times(17, ")"));
        Due.takes(33, "x i i " + Due.times(16, "(+1") + "x" + Due.times(16, ")"));
        Due.refuses("x i i " + Due.times(17, "(+1") + "x" + Due.times(17, ")"));
        Due.takes(33, "xii" + Due.times(16, "(:xx") + "x" + Due.times(16, ")"));
        Due.takes(33, "xii" + Due.times(16, "(/xyx") + "y" + Due.times(16, ")"));
        Due.refuses("xii" + Due.times(17, "(/xyx") + "y" + Due.times(17, ")"));
        // 33 names stand for something at once.
        Due.takes(33, "xii" + Due.times(15, "(/xyx") + "(/xzx" + "z" + Due.times(16, ")"));
        // The most binders that 120 characters can hold: one inside another, and beside one another.
        Due.takes(47, "xii" + Due.times(7, "(:y(:yxx)") + Due.times(9, "(:yx") + "x" + Due.times(16, ")"));
    }

    private static void callees() {
        for (int k = 0; k <= 3; k++) {
            Due.takes(2, "x i i (@ " + k + " x)");
            Due.takes(2, "x i i (@000" + k + "x)");
        }
        Due.refuses("x i i (@ 4 x)");
        Due.refuses("x i i (@ 9 x)");
        Due.refuses("x i i (@ 10 x)");
        Due.refuses("x i i (@ 9999 x)");
        Due.refuses("x i i (@ 00000 x)");
    }

    private static void names() {
        Due.misses("x i i y");
        Due.misses("x i i i");
        Due.misses("x i i (+ x y)");
        Due.misses("x i i (: y y x)");
        Due.misses("x i i (+ (: y x y) y)");
        Due.misses("x i i (/ a b a b)");
        Due.misses("x i i (/ a b x c)");
        Due.misses("x i i (+ (/ a b x a) b)");
        Due.takes(3, "n i i (+ n n)");
        Due.takes(3, "x i i (: x x x)");
        Due.takes(5, "x i i (: y x (: y y y))");
        Due.takes(5, "i i i (/ n g i (p n g))");
        // That the text is none goes ahead of a variable that stands for nothing.
        Due.refuses("x i i (+ y");
        Due.refuses("x i i y y");
        Due.refuses("x i i (+ y 12345)");
        Due.refuses("x i i (+ y (@ 4 x))");
        Due.is("define(4) with y", Due.ILLEGAL_ARGUMENT,
            Due.defined(new LinearCells(), 4, "x i i y"));
    }

    private static void procedureNumbers() {
        for (int k : new int[] {-1, 4, 5, 256, Integer.MAX_VALUE, Integer.MIN_VALUE}) {
            Due.is("define(" + k + ")", Due.ILLEGAL_ARGUMENT,
                Due.defined(new LinearCells(), k, "x i i x"));
        }
        for (int k = 0; k < 4; k++) {
            Due.is("define(" + k + ")", 1, Due.defined(new LinearCells(), k, "x i i x"));
        }
    }

    private static void emptiesTheDraft() {
        LinearCells x = new LinearCells();
        Due.is("a good one", 1, Due.defined(x, 0, "x i i x"));
        Due.is("nothing", Due.ILLEGAL_ARGUMENT, Due.defined(x, 0));
        Due.is("a wrong number", Due.ILLEGAL_ARGUMENT, Due.defined(x, 4, "x i i x"));
        Due.is("nothing", Due.ILLEGAL_ARGUMENT, Due.defined(x, 0));
        Due.is("no text", Due.ILLEGAL_ARGUMENT, Due.defined(x, 0, "x i"));
        Due.is("the rest of it", Due.ILLEGAL_ARGUMENT, Due.defined(x, 0, "i x"));
        Due.is("y", Due.UNSUPPORTED, Due.defined(x, 0, "x i i y"));
        Due.is("a good one", 1, Due.defined(x, 0, "y i i y"));
        Due.draft(x, Due.times(120, "x"));
        Due.is("120 characters", Due.ILLEGAL_ARGUMENT, Due.defined(x, 0));
        Due.draft(x, Due.times(120, " "));
    }

    private static void replaces() {
        LinearCells x = Due.with("x i i 1", "x i i 2");
        Due.given(x, 0, "x i r (n x)");
        Due.is("typed(0)", 2, Due.typed(x, 0));
        Due.is("typed(1)", 1, Due.typed(x, 1));
        Due.is("no text", Due.ILLEGAL_ARGUMENT, Due.defined(x, 0, "x i i (+ x 1"));
        Due.is("y", Due.UNSUPPORTED, Due.defined(x, 0, "x i i (+ y 1)"));
        Due.is("typed(0) is the older one's", 2, Due.typed(x, 0));
        Due.is("sound(0) is the older one's", true, x.sound(0));
        Due.is("run(0, 5) is the older one's", 0, Due.run(x, 0, 5));
        Due.is("cell(0)", 5, Due.cell(x, 0));
        Due.is("y", Due.UNSUPPORTED, Due.defined(x, 3, "x i i y"));
        Due.is("typed(3)", Due.ILLEGAL_STATE, Due.typed(x, 3));
    }
}
