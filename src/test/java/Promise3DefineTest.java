/** Promise 3: define() makes the draft a procedure. */
public final class Promise3DefineTest {
    public static void main(String[] args) {
        counts();
        signs();
        numbers();
        types();
        forms();
        depths();
        callees();
        names();
        procedureNumbers();
        emptiesTheDraft();
        replaces();
        Due.end();
    }

    private static void takes(int expressions, String text) {
        Due.is("define of '" + text + "'", expressions, Due.defined(new LinearCells(), 0, text));
    }

    private static void refuses(String text) {
        Due.is("define of '" + text + "'", Due.ILLEGAL_ARGUMENT,
            Due.defined(new LinearCells(), 0, text));
    }

    private static void misses(String text) {
        Due.is("define of '" + text + "'", Due.UNSUPPORTED, Due.defined(new LinearCells(), 0, text));
    }

    private static void counts() {
        takes(1, "x i i 1");
        takes(1, "x i i x");
        takes(3, "x i i (+ x 1)");
        takes(3, "x i i (- x 1)");
        takes(3, "x i i (* x 1)");
        takes(3, "x i i (< x 1)");
        takes(4, "x i i (? x 1 2)");
        takes(3, "x i i (: y x y)");
        takes(3, "x i (i i) (, x x)");
        takes(3, "x (i i) i (/ y z x y)");
        takes(2, "x i r (n x)");
        takes(2, "x r (i r) (g x)");
        takes(3, "x r r (p x 1)");
        takes(2, "x r i (d x)");
        takes(2, "x i i (@ 3 x)");
        takes(70, "xii" + Due.times(11, "(?x") + "(?xxx)" + Due.times(11, "(?xxx))"));
    }

    private static void signs() {
        takes(1, "xiix");
        takes(3, "xii(+x1)");
        takes(3, "x   i  i (   + x     1   )");
        takes(5, "x(ir)(ri)(/abx(,ba))");
        refuses("");
        refuses("      ");
        refuses("x");
        refuses("x i");
        refuses("x i i");
        refuses("x i i x x");
        refuses("x i i x)");
        refuses("x i i (+ x 1");
        refuses("x i i (+ x 1))");
        refuses("x i i +");
        refuses("x i i ()");
        refuses("x i i (x)");
        refuses("x i i (1)");
        refuses("x i i ((+ x 1))");
        refuses("1 i i x");
        refuses("( i i x");
        refuses("+ i i x");
        for (char other : "!\"#$%&'.;=>ABCXYZ[\\]^_`{|}~".toCharArray()) {
            refuses("x i i x" + other);
            refuses("x i i " + other);
            refuses("x i i (" + other + " x x)");
            refuses(other + " i i x");
        }
    }

    private static void numbers() {
        takes(1, "x i i 0");
        takes(1, "x i i 9999");
        takes(1, "x i i 0000");
        takes(3, "x i i (+ 1234 5678)");
        refuses("x i i 12345");
        refuses("x i i 00001");
        refuses("x i i (+ 12345)");
        refuses("x i i (+ 12345 6)");
        refuses("x i i (+ 12 34 5)");
        refuses("x i i (+ 1234)");
        refuses("x i i -1");
        refuses("x i i 1 2");
        LinearCells x = Due.with("x i i (- 0102 0009)");
        Due.is("run", 0, Due.run(x, 0, 0));
        Due.is("value(1)", 93, Due.value(x, 1));
    }

    private static void types() {
        takes(1, "x r r x");
        takes(1, "x (i i) (r r) x");
        takes(1, "x ((i r) (r i)) i 1");
        refuses("x x i 1");
        refuses("x n i 1");
        refuses("x i 1 1");
        refuses("x () i 1");
        refuses("x (i) i 1");
        refuses("x (i i i) i 1");
        refuses("x (i i i 1");
        refuses("x i (i i 1");
        refuses("x i i) 1");
    }

    private static void forms() {
        for (String form : new String[] {"+", "-", "*", "<", ",", "p"}) {
            refuses("x i i (" + form + ")");
            refuses("x i i (" + form + " x)");
            takes(3, "x i i (" + form + " x 1)");
            refuses("x i i (" + form + " x 1 2)");
        }
        for (String form : new String[] {"n", "g", "d"}) {
            refuses("x i i (" + form + ")");
            takes(2, "x i i (" + form + " x)");
            refuses("x i i (" + form + " x 1)");
        }
        for (char letter = 'a'; letter <= 'z'; letter++) {
            if ("ngpd".indexOf(letter) < 0) {
                refuses("x i i (" + letter + " x)");
                refuses("x i i (" + letter + " x x)");
            }
        }
        refuses("x i i (? x 1)");
        refuses("x i i (? x 1 2 3)");
        refuses("x i i (: x 1)");
        refuses("x i i (: 1 x 1)");
        refuses("x i i (: y x 1 2)");
        refuses("x i i (: (n 1) x 1)");
        refuses("x i i (/ a x 1)");
        refuses("x i i (/ a b x)");
        refuses("x i i (/ a 1 x 1)");
        refuses("x i i (/ 1 a x 1)");
        refuses("x i i (/ a a x 1)");
        refuses("x i i (/ x x x x)");
        takes(3, "x i i (/ a x x 1)");
        refuses("x i i (@ x)");
        refuses("x i i (@ x 1)");
        refuses("x i i (@ 1)");
        refuses("x i i (@ 1 2 3)");
    }

    private static void depths() {
        takes(1, "x i ((((i i) i) i) i) x");
        takes(1, "x (i (i (i (i r)))) i 1");
        refuses("x i (((((i i) i) i) i) i) x");
        refuses("x (i (i (i (i (i r))))) i 1");
        String four = "(((ii)(ii))((ii)(ii)))";
        takes(1, "x" + "(" + four + four + ")" + "(" + four + four + ")" + "1");
        takes(17, "x i i " + Due.times(16, "(n ") + "x" + Due.times(16, ")"));
        refuses("x i i " + Due.times(17, "(n ") + "x" + Due.times(17, ")"));
        takes(33, "x i i " + Due.times(16, "(+1") + "x" + Due.times(16, ")"));
        refuses("x i i " + Due.times(17, "(+1") + "x" + Due.times(17, ")"));
        takes(33, "xii" + Due.times(16, "(:xx") + "x" + Due.times(16, ")"));
        takes(33, "xii" + Due.times(16, "(/xyx") + "y" + Due.times(16, ")"));
        refuses("xii" + Due.times(17, "(/xyx") + "y" + Due.times(17, ")"));
        // 33 names stand for something at once.
        takes(33, "xii" + Due.times(15, "(/xyx") + "(/xzx" + "z" + Due.times(16, ")"));
        // The most binders that 120 characters can hold: one inside another, and beside one another.
        takes(47, "xii" + Due.times(7, "(:y(:yxx)") + Due.times(9, "(:yx") + "x" + Due.times(16, ")"));
    }

    private static void callees() {
        for (int k = 0; k <= 3; k++) {
            takes(2, "x i i (@ " + k + " x)");
            takes(2, "x i i (@000" + k + "x)");
        }
        refuses("x i i (@ 4 x)");
        refuses("x i i (@ 9 x)");
        refuses("x i i (@ 10 x)");
        refuses("x i i (@ 9999 x)");
        refuses("x i i (@ 00000 x)");
    }

    private static void names() {
        misses("x i i y");
        misses("x i i i");
        misses("x i i (+ x y)");
        misses("x i i (: y y x)");
        misses("x i i (+ (: y x y) y)");
        misses("x i i (/ a b a b)");
        misses("x i i (/ a b x c)");
        misses("x i i (+ (/ a b x a) b)");
        takes(3, "n i i (+ n n)");
        takes(3, "x i i (: x x x)");
        takes(5, "x i i (: y x (: y y y))");
        takes(5, "i i i (/ n g i (p n g))");
        // That the text is none goes ahead of a variable that stands for nothing.
        refuses("x i i (+ y");
        refuses("x i i y y");
        refuses("x i i (+ y 12345)");
        refuses("x i i (+ y (@ 4 x))");
        Due.is("define(4) with y", Due.ILLEGAL_ARGUMENT,
            Due.defined(new LinearCells(), 4, "x i i y"));
    }

    private static void procedureNumbers() {
        for (int k : new int[] {-1, 4, 5, 256, Integer.MAX_VALUE, Integer.MIN_VALUE}) {
            Due.is("define(" + k + ")", Due.ILLEGAL_ARGUMENT,
                Due.defined(new LinearCells(), k, "x i i x"));
        }
        for (int k = 0; k < 4; k++) {
            Due.is("define(" + k + ")", 1, Due.defined(new LinearCells(), k, "x i i x"));
        }
    }

    private static void emptiesTheDraft() {
        LinearCells x = new LinearCells();
        Due.is("a good one", 1, Due.defined(x, 0, "x i i x"));
        Due.is("nothing", Due.ILLEGAL_ARGUMENT, Due.defined(x, 0));
        Due.is("a wrong number", Due.ILLEGAL_ARGUMENT, Due.defined(x, 4, "x i i x"));
        Due.is("nothing", Due.ILLEGAL_ARGUMENT, Due.defined(x, 0));
        Due.is("no text", Due.ILLEGAL_ARGUMENT, Due.defined(x, 0, "x i"));
        Due.is("the rest of it", Due.ILLEGAL_ARGUMENT, Due.defined(x, 0, "i x"));
        Due.is("y", Due.UNSUPPORTED, Due.defined(x, 0, "x i i y"));
        Due.is("a good one", 1, Due.defined(x, 0, "y i i y"));
        Due.draft(x, Due.times(120, "x"));
        Due.is("120 characters", Due.ILLEGAL_ARGUMENT, Due.defined(x, 0));
        Due.draft(x, Due.times(120, " "));
    }

    private static void replaces() {
        LinearCells x = Due.with("x i i 1", "x i i 2");
        Due.given(x, 0, "x i r (n x)");
        Due.is("typed(0)", 2, Due.typed(x, 0));
        Due.is("typed(1)", 1, Due.typed(x, 1));
        Due.is("no text", Due.ILLEGAL_ARGUMENT, Due.defined(x, 0, "x i i (+ x 1"));
        Due.is("y", Due.UNSUPPORTED, Due.defined(x, 0, "x i i (+ y 1)"));
        Due.is("typed(0) is the older one's", 2, Due.typed(x, 0));
        Due.is("sound(0) is the older one's", true, x.sound(0));
        Due.is("run(0, 5) is the older one's", 0, Due.run(x, 0, 5));
        Due.is("cell(0)", 5, Due.cell(x, 0));
        Due.is("y", Due.UNSUPPORTED, Due.defined(x, 3, "x i i y"));
        Due.is("typed(3)", Due.ILLEGAL_STATE, Due.typed(x, 3));
    }
}
