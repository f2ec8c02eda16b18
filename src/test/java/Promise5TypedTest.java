/** Promise 5: the type that a body has, as a number. */
public final class Promise5TypedTest {
    public static void main(String[] args) {
        none();
        ordinary();
        faults();
        usesDontCount();
        sameTypes();
        calls();
        deepTypes();
        Due.end();
    }

    private static void none() {
        LinearCells x = Due.with("", "x i i x");
        for (int k : new int[] {-1, 0, 2, 3, 4, Integer.MIN_VALUE, Integer.MAX_VALUE}) {
            Due.is("typed(" + k + ")", Due.ILLEGAL_STATE, Due.typed(x, k));
        }
        Due.is("typed(1)", 1, Due.typed(x, 1));
    }

    private static void ordinary() {
        Due.isTyped(1, "x i i 5");
        Due.isTyped(1, "x i i x");
        Due.isTyped(2, "x r i x");
        Due.isTyped(12, "x (i i) i x");
        Due.isTyped(13, "x (i r) i x");
        Due.isTyped(20, "x (r i) i x");
        Due.isTyped(21, "x (r r) i x");
        Due.isTyped(31, "x (r (i i)) i x");
        Due.isTyped(101, "x ((i i) r) i x");
        Due.isTyped(1, "x i i (+ x 1)");
        Due.isTyped(1, "x i i (- x 1)");
        Due.isTyped(1, "x i i (* x 1)");
        Due.isTyped(1, "x i i (< x 1)");
        Due.isTyped(1, "x i i (? x 1 2)");
        Due.isTyped(21, "x (r r) i (? 1 x x)");
        Due.isTyped(2, "x i i (: y (n x) y)");
        Due.isTyped(13, "x i i (, x (n x))");
        Due.isTyped(2, "x (i r) i (/ a b x b)");
        Due.isTyped(1, "x (i r) i (/ a b x a)");
        Due.isTyped(2, "x i i (n x)");
        Due.isTyped(13, "x r i (g x)");
        Due.isTyped(2, "x r i (p x 1)");
        Due.isTyped(1, "x r i (d x)");
        // What the procedure should give is not looked at.
        Due.isTyped(1, "x i r 5");
        Due.isTyped(12, "x i r (, 1 1)");
    }

    private static void faults() {
        for (String form : new String[] {"+", "-", "*", "<"}) {
            Due.isTyped(0, "x r i (" + form + " x 1)");
            Due.isTyped(0, "x r i (" + form + " 1 x)");
            Due.isTyped(0, "x (i i) i (" + form + " 1 x)");
        }
        Due.isTyped(0, "x r i (? x 1 1)");
        Due.isTyped(0, "x (i i) i (? x 1 1)");
        Due.isTyped(0, "x r i (? 1 x 1)");
        Due.isTyped(0, "x r i (? 1 1 x)");
        Due.isTyped(0, "x r i (: y (+ x 1) 1)");
        Due.isTyped(0, "x i i (/ a b x 1)");
        Due.isTyped(0, "x r i (/ a b x 1)");
        Due.isTyped(0, "x i i (/ a b x a)");
        Due.isTyped(0, "x r i (n x)");
        Due.isTyped(0, "x (i i) i (n x)");
        Due.isTyped(0, "x i i (g x)");
        Due.isTyped(0, "x (i r) i (g x)");
        Due.isTyped(0, "x i i (p x 1)");
        Due.isTyped(0, "x r i (p x x)");
        Due.isTyped(0, "x i i (d x)");
        Due.isTyped(0, "x (r r) i (d x)");
        Due.isTyped(0, "x i i (, 1 (d x))");
        Due.isTyped(0, "x i i (, (d x) 1)");
        Due.isTyped(0, "x i i (? 1 (d x) (d x))");
        Due.isTyped(0, "x i i (? (d x) 1 1)");
        Due.isTyped(0, "x (i i) i (/ a b x (d a))");
    }

    private static void usesDontCount() {
        Due.isTyped(1, "x r i 1");
        Due.isTyped(21, "x r i (, x x)");
        Due.isTyped(1, "x i i (: c (n x) (+ (d c) (d c)))");
        Due.isTyped(1, "x i i (: c (n x) (? x (d c) 1))");
    }

    private static void sameTypes() {
        // The first ones have the number 31, the second ones 111.
        Due.isTyped(0, "x ((r (i i)) (i (r i))) i (/ a b x (? 1 a b))");
        Due.isTyped(31, "x ((r (i i)) (r (i i))) i (/ a b x (? 1 a b))");
        Due.isTyped(0, "x i i (? x (, (, x x) (, x x)) (, x (, (, x x) x)))");
        Due.isTyped(111, "x i i (? x (, (, x x) (, x x)) (, (, 1 2) (, 3 4)))");
        Due.isTyped(13, "x r i (? 1 (g x) (, 1 x))");
    }

    private static void calls() {
        Due.is("it calls itself", 2, Due.typed(Due.with("x i r (@ 0 x)"), 0));
        Due.is("not there", 0, Due.typed(Due.with("x i i (@ 1 x)"), 0));
        LinearCells x = Due.with("x i i (@ 1 x)", "x i (r i) (d x)");
        Due.is("what it gives is written", 20, Due.typed(x, 0));
        Due.is("its own body has no type", 0, Due.typed(x, 1));
        Due.given(x, 1, "x r (r i) (d x)");
        Due.is("the part has another type", 0, Due.typed(x, 0));
        Due.given(x, 0, "x i i (@ 1 (n x))");
        Due.is("the part has its type", 20, Due.typed(x, 0));
        Due.given(x, 1, "x (r (i i)) i 1");
        Due.given(x, 0, "x (i (r i)) i (@ 1 x)");
        Due.is("the part has another type with its number", 0, Due.typed(x, 0));
        Due.given(x, 0, "x i i (@ 1 (, (n x) (, x x)))");
        Due.is("the part has its type", 1, Due.typed(x, 0));
        Due.given(x, 0, "x i i (@ 1 (@ 2 x))");
        Due.is("the part has no type, as 2 is not there", 0, Due.typed(x, 0));
    }

    private static void deepTypes() {
        // Deeper than a type can be written.
        Due.isTyped(8 * (8 * (8 * (8 * 12 + 1 + 3) + 1 + 3) + 1 + 3) + 1 + 3,
            "x i i (, (, (, (, (, x 1) 1) 1) 1) 1)");
        int number = 1;
        String text = "x";
        for (int depth = 1; depth <= 16; depth++) {
            number = 8 * number + 1 + 3;
            text = "(," + text + "x)";
            Due.isTyped(number, "xii" + text);
        }
        number = 1;
        text = "xii";
        String end = "x";
        for (int depth = 1; depth <= 12; depth++) {
            number = 9 * number + 3;
            text = text + "(:x(,xx)";
            end = end + ")";
            Due.isTyped(number, text + end);
        }
        // Large types are compared, too.
        Due.isTyped(0, "xii" + Due.times(9, "(:x(,xx)") + "(?1x(,1x))" + Due.times(9, ")"));
        int nine = 1;
        for (int i = 0; i < 9; i++) {
            nine = 9 * nine + 3;
        }
        Due.isTyped(nine, "xii" + Due.times(9, "(:x(,xx)") + "(/abx(?1x(,ba)))" + Due.times(9, ")"));
        Due.isTyped(0, "xii" + Due.times(9, "(:x(,xx)") + "(/abx(?1xa))" + Due.times(9, ")"));
    }
}
