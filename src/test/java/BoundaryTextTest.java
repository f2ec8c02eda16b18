/** The sentences under "Terms" that say where a text of a procedure begins to be none. */
public final class BoundaryTextTest {
    private static final String SIGNS = "()abcdefghijklmnopqrstuvwxyz+-*<?:,/@0123456789";
    // Each form with a place o for a part; the other parts are x.
    private static final String[] FORMS = {"(+ox)", "(+xo)", "(-ox)", "(-xo)", "(*ox)", "(*xo)", "(<ox)", "(<xo)",
        "(?oxx)", "(?xox)", "(?xxo)", "(:yox)", "(:yxo)", "(,ox)", "(,xo)", "(/yzox)", "(/yzxo)", "(no)", "(go)",
        "(pox)", "(pxo)", "(do)", "(@0 o)"};

    public static void main(String[] args) {
        Due.sentence("blanks may stand between SIGNS", BoundaryTextTest::blanks);
        Due.sentence("letters a .. z", BoundaryTextTest::letters);
        Due.sentence("NUMBERS, rows of 1 to 4 digits", BoundaryTextTest::digits);
        Due.sentence("Other characters are no text", BoundaryTextTest::otherCharacters);
        Due.sentence("TYPES: i, a number; r, a CELL; (T U), a pair", BoundaryTextTest::types);
        Due.sentence("Types lie in types at most 4 deep (the whole one 0)", BoundaryTextTest::depthOfTypes);
        Due.sentence("a variable x, a type T, a type U, an expression", BoundaryTextTest::procedure);
        Due.sentence("(+ e f) .. (@ k e): how many parts a form has", BoundaryTextTest::parts);
        Due.sentence("(: x e f), (/ x y e f): x and y are variables", BoundaryTextTest::boundNames);
        Due.sentence("x and y are not the same", BoundaryTextTest::notTheSame);
        Due.sentence("procedure k (0 .. 3)", BoundaryTextTest::callees);
        Due.sentence("Expressions lie in expressions at most 16 deep", BoundaryTextTest::depthOfExpressions);
        Due.sentence("A letter behind ( is one of n, g, p, d", BoundaryTextTest::letterBehindBracket);
        Due.end();
    }

    private static void blanks() {
        Due.takes(3, "xii(+x1)");
        Due.takes(3, "x i i ( + x 1 )");
        Due.takes(5, "x(ir)(ri)(/abx(,ba))");
        Due.takes(5, "x ( i r ) ( r i ) ( / a b x ( , b a ) )");
        // As many as 120 characters leave room for, between any two signs.
        String[] signs = {"x", "i", "i", "(", "+", "x", "1", ")"};
        for (int at = 1; at < signs.length; at++) {
            String text = "";
            for (int i = 0; i < signs.length; i++) {
                text += (i == at ? Due.times(112, " ") : "") + signs[i];
            }
            Due.takes(3, text);
        }
        // A blank is no part of a number: it makes two of one.
        Due.refuses("x i i 12 34");
        Due.refuses("x i i (+ 1234)");
        Due.comesTo(46, "x i i (+ 12 34)", 0);
        Due.comesTo(235, "x i i (+ 1 234)", 0);
        Due.comesTo(127, "x i i (+ 123 4)", 0);
        // The document does not say that blanks ahead of the first sign or behind the last one spoil a text.
        Due.takes(1, "  xiix");
        Due.takes(1, "xiix  ");
        Due.refuses(" ");
        Due.refuses(Due.times(120, " "));
    }

    private static void letters() {
        for (char letter = 'a'; letter <= 'z'; letter++) {
            char other = letter == 'z' ? 'a' : (char) (letter + 1);
            Due.takes(1, letter + " i i " + letter);
            Due.takes(3, other + " i i (: " + letter + " 1 " + letter + ")");
            Due.takes(3, other + " i i (/ " + letter + " " + other + " 1 " + letter + ")");
            Due.takes(3, other + " i i (/ " + other + " " + letter + " 1 " + letter + ")");
            Due.misses(letter + " i i " + other);
        }
        // The characters next to a and z, and the capitals.
        for (char other : "`{@AZ".toCharArray()) {
            Due.refuses(other + " i i 1");
            Due.refuses("x i i " + other);
            Due.refuses("x i i (: " + other + " 1 1)");
            Due.refuses("x i i (/ x " + other + " 1 1)");
            Due.refuses("x i i (/ " + other + " x 1 1)");
        }
    }

    private static void digits() {
        int[] numbers = {0, 1, 9, 10, 99, 100, 999, 1000, 9999};
        for (int number : numbers) {
            Due.comesTo(number, "x i i " + number, -1);
        }
        Due.comesTo(0, "x i i 0000", -1);
        Due.comesTo(7, "x i i 0007", -1);
        Due.comesTo(70, "x i i 070", -1);
        Due.comesTo(9999 + 9999, "x i i (+ 9999 9999)", -1);
        // A row ends where another sign stands.
        Due.comesTo(9998, "xii(+9999x)", -1);
        Due.comesTo(9998, "xii(+x9999)", -1);
        for (String five : new String[] {"00000", "00001", "10000", "12345", "99999", "000000", "123456789"}) {
            Due.refuses("x i i " + five);
            Due.refuses("x i i (+ " + five + ")");
            Due.refuses("x i i (+ x " + five + ")");
            Due.refuses("x i i (+ " + five + " x)");
            Due.refuses("x i i (@ " + five + " x)");
        }
        // The characters next to 0 and 9 are signs, but no numbers.
        Due.refuses("x i i /");
        Due.refuses("x i i :");
        Due.refuses("x i i -1");
        Due.refuses("x i i (+ x -1)");
    }

    private static void otherCharacters() {
        String text = "x(ir)i(/abx(+12(da)))";
        String body = "(+ x (* x 2))";
        for (char other = 33; other <= 126; other++) {
            if (SIGNS.indexOf(other) >= 0) {
                continue;
            }
            for (int at = 0; at <= text.length(); at++) {
                Due.refuses(text.substring(0, at) + other + text.substring(at));
            }
            for (int at = 0; at < body.length(); at++) {
                Due.refuses("x i i " + body.substring(0, at) + other + body.substring(at + 1));
            }
            Due.refuses("" + other);
        }
    }

    private static void types() {
        for (String type : new String[] {"i", "r", "(ii)", "(ir)", "(ri)", "(rr)", "((ii)r)", "(r(ii))"}) {
            Due.takes(1, "x " + type + " i 1");
            Due.takes(1, "x i " + type + " 1");
        }
        for (char letter = 'a'; letter <= 'z'; letter++) {
            if (letter != 'i' && letter != 'r') {
                Due.refuses("x " + letter + " i 1");
                Due.refuses("x i " + letter + " 1");
                Due.refuses("x (i " + letter + ") i 1");
                Due.refuses("x i (" + letter + " i) 1");
            }
        }
        String[] nones = {"()", "(i)", "((ii))", "(iii)", "(ir", "(iri", "(ir(", "(ir1", "ir)", "1", "(i1)", "(,ii)", ")", "("};
        for (String none : nones) {
            Due.refuses("x " + none + " i 1");
            Due.refuses("x i " + none + " 1");
        }
    }

    /** A type with a leaf so deep: bit n of ways says in which part of the nth pair it lies. */
    private static String typeWithLeaf(int deep, int ways) {
        String type = "r";
        for (int n = deep - 1; n >= 0; n--) {
            type = (ways >> n & 1) == 0 ? "(" + type + "i)" : "(i" + type + ")";
        }
        return type;
    }

    private static String fullType(int deep) {
        return deep == 0 ? "i" : "(" + fullType(deep - 1) + fullType(deep - 1) + ")";
    }

    private static void depthOfTypes() {
        for (int deep = 0; deep <= 6; deep++) {
            for (int ways = 0; ways < 1 << deep; ways++) {
                String type = typeWithLeaf(deep, ways);
                if (deep <= 4) {
                    Due.takes(1, "x " + type + " i 1");
                    Due.takes(1, "x i " + type + " 1");
                } else {
                    Due.refuses("x " + type + " i 1");
                    Due.refuses("x i " + type + " 1");
                }
            }
        }
        Due.takes(1, "x" + fullType(4) + fullType(4) + "1");
        Due.refuses("x" + fullType(5) + "i1");
        Due.refuses("xi" + fullType(5) + "1");
        // Pairs lie deeper in a body, where no type is written.
        Due.takes(33, "xii" + Due.times(16, "(,x") + "x" + Due.times(16, ")"));
    }

    private static void procedure() {
        Due.refuses("");
        Due.refuses("x");
        Due.refuses("x i");
        Due.refuses("x i i");
        Due.takes(1, "x i i x");
        Due.refuses("x i i x x");
        Due.refuses("x i i i x");
        Due.refuses("x x i i x");
        Due.refuses("i i x");
        Due.refuses("x i i x)");
        Due.refuses("(x i i x)");
        Due.refuses("x i i ()");
        Due.refuses("x i i (x)");
        Due.refuses("x i i (1)");
        Due.refuses("x i i ((+ x 1))");
        Due.refuses("x i i (+ x 1");
        Due.refuses("x i i (+ x 1))");
        Due.refuses("x i i x x i i x");
        for (char sign : "()+-*<?:,/@".toCharArray()) {
            Due.refuses("x i i " + sign);
            Due.refuses(sign + " i i 1");
            Due.refuses("x i i 1 " + sign);
        }
    }

    private static void parts() {
        for (String form : new String[] {"n", "g", "d", "@0"}) {
            hasParts(1, form);
        }
        for (String form : new String[] {"+", "-", "*", "<", ",", "p", ":y", "/yz"}) {
            hasParts(2, form);
        }
        hasParts(3, "?");
    }

    private static void hasParts(int want, String form) {
        for (int parts = 0; parts <= 5; parts++) {
            String text = "x i i (" + form + Due.times(parts, " x") + ")";
            if (parts == want) {
                Due.takes(want + 1, text);
                Due.refuses(text.substring(0, text.length() - 1));
            } else {
                Due.refuses(text);
            }
        }
    }

    private static void boundNames() {
        for (String none : new String[] {"1", "(n 1)", "+", ")", ""}) {
            Due.refuses("x i i (: " + none + " x x)");
            Due.refuses("x i i (/ " + none + " y x x)");
            Due.refuses("x i i (/ y " + none + " x x)");
        }
    }

    private static void notTheSame() {
        for (char letter = 'a'; letter <= 'z'; letter++) {
            Due.refuses("x i i (/ " + letter + " " + letter + " x x)");
            char other = letter == 'a' ? 'z' : 'a';
            Due.takes(3, "x i i (/ " + letter + " " + other + " x 1)");
        }
        Due.refuses("x i i (+ 1 (/ a a x 1))");
        // It is no text, which goes ahead of a variable that stands for nothing.
        Due.refuses("x i i (/ a a q 1)");
        // Only the two of one / must differ.
        Due.takes(5, "x i i (/ a b x (/ a b x b))");
        Due.takes(5, "x i i (/ a b x (/ b a x b))");
        Due.takes(3, "x i i (/ x y x x)");
        Due.takes(3, "x i i (/ y x x x)");
        Due.takes(3, "x i i (: x x x)");
    }

    private static void callees() {
        for (int k = 0; k <= 3; k++) {
            Due.takes(2, "x i i (@ " + k + " x)");
            Due.takes(2, "x i i (@ 0" + k + " x)");
            Due.takes(2, "x i i (@ 000" + k + " x)");
        }
        for (int k : new int[] {4, 5, 6, 7, 8, 9, 10, 11, 12, 13, 20, 30, 32, 35, 100, 103, 256, 1000, 3000, 9999}) {
            Due.refuses("x i i (@ " + k + " x)");
        }
        Due.refuses("x i i (@ 0004 x)");
        Due.refuses("x i i (@ -1 x)");
        Due.refuses("x i i (@ x x)");
        Due.refuses("x i i (@ (+ 0 0) x)");
        Due.refuses("x i i (+ 1 (@ 4 x))");
        for (int k = 0; k <= 3; k++) {
            LinearCells x = new LinearCells();
            Due.given(x, k, "x i i 7");
            Due.given(x, (k + 1) % 4, "x i i (@ " + k + " x)");
            Due.is("run of the caller of " + k, 0, Due.run(x, (k + 1) % 4, 1));
            Due.is("value(1)", 7, Due.value(x, 1));
        }
    }

    private static void depthOfExpressions() {
        for (String leaf : new String[] {"x", "7"}) {
            Due.takes(1, "x i i " + leaf);
            for (String form : FORMS) {
                int forms = 0;
                String body = leaf;
                for (int deep = 1; deep <= 17; deep++) {
                    body = form.replace("o", body);
                    forms += expressionsIn(form);
                    if (deep <= 16) {
                        Due.takes(forms + 1, "xii" + body);
                    } else {
                        Due.refuses("xii" + body);
                    }
                }
            }
        }
        // Two parts so deep, one of them too deep, and a text that is broad and not deep.
        String deep16 = Due.times(15, "(n") + "x" + Due.times(15, ")");
        Due.takes(33, "xii(+" + deep16 + deep16 + ")");
        Due.refuses("xii(+" + deep16 + "(n" + deep16 + "))");
        Due.refuses("xii(+(n" + deep16 + ")" + deep16 + ")");
        Due.takes(31, "xii" + fullPair(4));
    }

    /** How many expressions a form of FORMS brings: itself and its parts x. */
    private static int expressionsIn(String form) {
        return 1 + (int) form.chars().filter(c -> c == 'x').count();
    }

    private static String fullPair(int deep) {
        return deep == 0 ? "x" : "(," + fullPair(deep - 1) + fullPair(deep - 1) + ")";
    }

    private static void letterBehindBracket() {
        for (char letter = 'a'; letter <= 'z'; letter++) {
            // The letter is a variable here, too, and is no less one for that.
            for (int parts = 0; parts <= 3; parts++) {
                String text = letter + " i i (" + letter + Due.times(parts, " " + letter) + ")";
                int due = letter == 'p' ? 2 : "ngd".indexOf(letter) >= 0 ? 1 : -1;
                if (parts == due) {
                    Due.takes(parts + 1, text);
                } else {
                    Due.refuses(text);
                }
            }
        }
        for (int number = 0; number <= 3; number++) {
            Due.refuses("x i i (" + number + " x)");
        }
        Due.refuses("x i i (N x)");
        Due.refuses("x i i (D x)");
    }
}
