/** Promise 4: whether a procedure, and all that it comes to call, is checked without a fault. */
public final class Promise4SoundTest {
    public static void main(String[] args) {
        none();
        usedOnce();
        usedOnEveryWay();
        notLinear();
        nearestName();
        given();
        callees();
        laterDefinitions();
        changesNothing();
        Due.end();
    }

    private static void none() {
        LinearCells x = Due.with("", "x i i x");
        for (int k : new int[] {-1, 0, 2, 3, 4, 33, Integer.MIN_VALUE, Integer.MAX_VALUE}) {
            Due.is("sound(" + k + ")", false, x.sound(k));
        }
        Due.is("sound(1)", true, x.sound(1));
    }

    private static void usedOnce() {
        Due.isSound(true, "x r r x");
        Due.isSound(false, "x r i 1");
        Due.isSound(false, "x r (r r) (, x x)");
        Due.isSound(false, "x (i r) i 1");
        Due.isSound(true, "x (i r) (i r) x");
        Due.isSound(false, "x (r i) ((r i)(r i)) (, x x)");
        Due.isSound(true, "x i i (: c (n x) (d c))");
        Due.isSound(false, "x i i (: c (n x) x)");
        Due.isSound(false, "x i i (: c (n x) (+ (d c) (d c)))");
        Due.isSound(true, "x i i (/ a c (g (n x)) (d c))");
        Due.isSound(false, "x i i (/ a c (g (n x)) a)");
        Due.isSound(true, "x (r r) (r r) (/ a b x (, b a))");
        Due.isSound(false, "x (r r) r (/ a b x a)");
        Due.isSound(false, "x (r r) r (/ a b x b)");
        Due.isSound(false, "x (r r) (r r) (/ a b x (, b b))");
        Due.isSound(false, "x (r r) (r (r r)) (/ a b x (, b x))");
        Due.isSound(true, "x i ((i i) r) (: p (, (, x x) (n x)) p)");
        Due.isSound(true, "x ((i r) i) r (/ p k x (/ a c p (p c (+ a k))))");
        Due.isSound(false, "x ((i r) i) i (/ p k x k)");
    }

    private static void usedOnEveryWay() {
        Due.isSound(true, "x i i (: c (n x) (? x (d c) (+ 1 (d c))))");
        Due.isSound(false, "x i i (: c (n x) (? x (d c) 0))");
        Due.isSound(false, "x i i (: c (n x) (? x 0 (d c)))");
        Due.isSound(false, "x i i (: c (n x) (? x 0 1))");
        Due.isSound(true, "x i i (: c (n x) (? (d c) 0 1))");
        Due.isSound(false, "x i i (: c (n x) (? (d c) 0 (d c)))");
        Due.isSound(false, "x i i (: c (n x) (? (d c) (d c) 0))");
        Due.isSound(false, "x i i (: c (n x) (? (d c) (d c) (d c)))");
        Due.isSound(true, "x i i (: c (n x) (? x (? x (d c) (d c)) (d c)))");
        Due.isSound(false, "x i i (: c (n x) (? x (? x (d c) 1) (d c)))");
        Due.isSound(false, "x i i (: c (n x) (+ (? x (d c) 1) (? x 1 (d c))))");
        Due.isSound(true, "x i i (? x (: c (n x) (d c)) 0)");
        Due.isSound(false, "x i i (: c (n 1) (? x (d c) (: c (n 2) (d c))))");
    }

    private static void notLinear() {
        Due.isSound(true, "x i i 1");
        Due.isSound(true, "x i (i i) (, x x)");
        Due.isSound(true, "x (i i) i 1");
        Due.isSound(true, "x (i i) ((i i)(i i)) (, x x)");
        Due.isSound(true, "x i i (? x x 0)");
        Due.isSound(true, "x (i i) i (/ a b x a)");
        Due.isSound(true, "x (i i) i (/ a b x (+ b b))");
        Due.isSound(true, "x i i (: y x 1)");
    }

    private static void nearestName() {
        Due.isSound(true, "x r r (: x (d x) (n x))");
        Due.isSound(false, "x r i (: x 1 x)");
        Due.isSound(true, "x r i (: y (d x) (: y (n y) (d y)))");
        Due.isSound(false, "x r (r r) (: y x (: x (n 1) (, x x)))");
        Due.isSound(true, "x r (r r) (: y x (: x (n 1) (, x y)))");
        Due.isSound(true, "x (i r) i (/ x y x (+ x (d y)))");
        Due.isSound(true, "x (r r) r (/ y x x (: y (d y) x))");
    }

    private static void given() {
        Due.isSound(false, "x i r x");
        Due.isSound(false, "x r i x");
        Due.isSound(false, "x i (i i) (, x (n 1))");
        Due.isSound(true, "x i (i r) (, x (n 1))");
        Due.isSound(false, "x i (r i) (, x (n 1))");
        Due.isSound(false, "x i ((i i) i) (, x (, x x))");
        Due.isSound(true, "x i (i (i i)) (, x (, x x))");
        // Both types have the number 111, but they are not the same.
        Due.isSound(true, "x i ((i i) (i i)) (, (, x x) (, x x))");
        Due.isSound(false, "x i (i ((i i) i)) (, (, x x) (, x x))");
        Due.isSound(true, "x i (i ((i i) i)) (, x (, (, x x) x))");
        Due.isSound(false, "x i i (+ x (n 1))");
        Due.isSound(false, "x i i (d x)");
    }

    private static void callees() {
        LinearCells x = Due.with("x i i (@ 1 x)", "x i i (@ 2 x)", "x i i (@ 3 x)", "x i i x");
        for (int k = 0; k < 4; k++) {
            Due.is("a row of calls: sound(" + k + ")", true, x.sound(k));
        }
        Due.given(x, 3, "x i i (: c (n x) x)");
        for (int k = 0; k < 4; k++) {
            Due.is("its last one is not sound: sound(" + k + ")", false, x.sound(k));
        }
        Due.given(x, 1, "x i i x");
        Due.is("it is not called any more: sound(0)", true, x.sound(0));
        Due.is("sound(2)", false, x.sound(2));
        LinearCells y = Due.with("x i i (@ 3 x)", "x i i (@ 0 x)", "x i i (: c (n x) x)", "x i i (@ 1 x)");
        Due.is("a ring of calls: sound(0)", true, y.sound(0));
        Due.given(y, 1, "x i i (? x (@ 0 x) (@ 2 x))");
        Due.is("the ring calls one that is not sound: sound(0)", false, y.sound(0));
        Due.is("sound(3)", false, y.sound(3));
        Due.is("it calls itself", true, Due.with("x i i (@ 0 x)").sound(0));
        Due.is("what it calls is not there", false, Due.with("x i i (@ 1 x)").sound(0));
        Due.is("on a way that is not gone", false, Due.with("x i i (? 1 x (@ 1 x))").sound(0));
        Due.is("the part has another type", false, Due.with("x i i (@ 1 x)", "x r i (d x)").sound(0));
        Due.is("the part has its type", true, Due.with("x i i (@ 1 (n x))", "x r i (d x)").sound(0));
        Due.is("it gives another type", false, Due.with("x i i (@ 1 x)", "x i r (n x)").sound(0));
    }

    private static void laterDefinitions() {
        LinearCells x = Due.with("x i i (@ 1 x)");
        Due.is("sound(0) ahead of 1", false, x.sound(0));
        Due.given(x, 1, "x i i x");
        Due.is("sound(0) behind 1", true, x.sound(0));
        Due.given(x, 1, "x i r (n x)");
        Due.is("sound(0) behind another 1", false, x.sound(0));
    }

    private static void changesNothing() {
        LinearCells x = Due.with("x i (i r) (g (n x))");
        Due.draft(x, "x i ");
        Due.is("run", 0, Due.run(x, 0, 8));
        Due.is("sound(0)", true, x.sound(0));
        Due.values("behind sound", x, 3, 8, 1, 1);
        Due.heaps("behind sound", x, 1, 1, 0, 1, 3);
        Due.is("cell(0)", 8, Due.cell(x, 0));
        Due.is("define", 1, Due.defined(x, 1, "i x"));
    }
}
