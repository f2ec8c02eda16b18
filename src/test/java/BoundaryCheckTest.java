/** The sentences about linear types, checking a body, SOUND and typed() that name a boundary case. */
public final class BoundaryCheckTest {
    // An expression of each type that is made without a variable, and the type's number.
    private static final String NUMBER = "1";
    private static final String CELL = "(n 1)";
    private static final String PAIR = "(, 1 1)";
    private static final String CELL_PAIR = "(, 1 (n 1))";
    private static final String[] PARTS = {NUMBER, CELL, PAIR, CELL_PAIR};
    private static final int[] NUMBERS = {1, 2, 12, 13};

    public static void main(String[] args) {
        Due.sentence("LINEAR if it is r or a pair with a linear part", BoundaryCheckTest::linear);
        Due.sentence("+ - * < i, whose parts must be i", BoundaryCheckTest::calculations);
        Due.sentence("a variable that of what it stands for (the nearest one)", BoundaryCheckTest::nearestName);
        Due.sentence("? that of e, which must be f's, c must be i", BoundaryCheckTest::choices);
        Due.sentence(": and / that of f, the e of / must be a pair", BoundaryCheckTest::bindings);
        Due.sentence(", the pair; n r, its part i", BoundaryCheckTest::makingPairsAndCells);
        Due.sentence("g (i r), its part r; p r, its parts r and i; d i, its part r", BoundaryCheckTest::cells);
        Due.sentence("@ the type that procedure k gives, which must be there", BoundaryCheckTest::calls);
        Due.sentence("The body's type must be U", BoundaryCheckTest::given);
        Due.sentence("USED exactly once: by standing as an expression", BoundaryCheckTest::usedOnce);
        Due.sentence("counted for ? in c and e, and in c and f, for both alike", BoundaryCheckTest::usedAlike);
        Due.sentence("other ones as often as one likes", BoundaryCheckTest::otherOnes);
        Due.sentence("and so are those of all procedures that it calls", BoundaryCheckTest::calledOnes);
        Due.sentence("sound: false if there is none", BoundaryCheckTest::soundOfNone);
        Due.sentence("typed: 8 * (its first part's) + (its second part's) + 3", BoundaryCheckTest::numbersOfTypes);
        Due.sentence("typed: as an int", BoundaryCheckTest::numbersGoRound);
        Due.sentence("typed: 0 if the body has no type", BoundaryCheckTest::noType);
        Due.sentence("typed: uses of variables are not looked at here", BoundaryCheckTest::usesDontCount);
        Due.sentence("typed: IllegalStateException: there is no procedure k", BoundaryCheckTest::typedOfNone);
        Due.end();
    }

    private static void linear() {
        // A variable that is not used is a fault only if it is linear.
        Due.isSound(true, "x i i 1");
        Due.isSound(false, "x r i 1");
        for (int deep = 1; deep <= 4; deep++) {
            for (int ways = 0; ways < 1 << deep; ways++) {
                Due.isSound(false, "x " + typeWithLeaf(deep, ways, "r") + " i 1");
                Due.isSound(true, "x " + typeWithLeaf(deep, ways, "i") + " i 1");
            }
        }
        Due.isSound(true, "x((((ii)(ii))((ii)(ii)))(((ii)(ii))((ii)(ii))))i1");
        Due.isSound(false, "x((((ii)(ii))((ii)(ii)))(((ii)(ii))((ii)(ir))))i1");
        Due.isSound(false, "x((((ri)(ii))((ii)(ii)))(((ii)(ii))((ii)(ii))))i1");
        // Deeper than a type can be written, and doubled as often as a body can.
        for (int deep = 1; deep <= 14; deep++) {
            String begin = "xii(:y" + Due.times(deep, "(,");
            String end = Due.times(deep, " 1)") + "1)";
            Due.isSound(true, begin + "1" + end);
            Due.isSound(false, begin + "(n1)" + end);
        }
        Due.isSound(true, "xii" + Due.times(12, "(:x(,xx)") + "1" + Due.times(12, ")"));
    }

    /** A type with a leaf so deep: bit n of ways says in which part of the nth pair it lies. */
    private static String typeWithLeaf(int deep, int ways, String leaf) {
        String type = leaf;
        for (int n = deep - 1; n >= 0; n--) {
            type = (ways >> n & 1) == 0 ? "(" + type + "i)" : "(i" + type + ")";
        }
        return type;
    }

    private static void calculations() {
        for (String form : new String[] {"+", "-", "*", "<"}) {
            for (String e : PARTS) {
                for (String f : PARTS) {
                    int due = e.equals(NUMBER) && f.equals(NUMBER) ? 1 : 0;
                    Due.isTyped(due, "x i i (" + form + " " + e + " " + f + ")");
                }
            }
        }
        Due.isTyped(1, "x i i 0");
        Due.isTyped(1, "x i i 9999");
    }

    private static void nearestName() {
        Due.isTyped(1, "x i i x");
        Due.isTyped(2, "x i i (: x (n x) x)");
        Due.isTyped(12, "x i i (: x (n x) (: x (, 1 2) x))");
        Due.isTyped(13, "x i i (, (: x 1 x) (: x (n 1) x))");
        // Behind f the name stands for the outer one again, and in e it does so still.
        Due.isTyped(20, "x i i (, (: x (n x) x) x)");
        Due.isTyped(1, "x i i (+ (d (: x (n x) x)) x)");
        Due.isTyped(2, "x i i (/ x y (, (n x) x) x)");
        Due.isTyped(2, "x i i (/ y x (, x (n x)) x)");
        Due.isTyped(1, "x i i (/ x y (, (n x) x) y)");
        Due.isTyped(1, "x i i (/ a b (, (n 1) 2) (/ b a (, 1 (n 1)) b))");
        // Each one's uses are counted for itself.
        Due.isSound(true, "x r r (: x (d x) (n x))");
        Due.isSound(false, "x r i (: x 1 x)");
        Due.isSound(false, "x r (r r) (: y x (: x (n 1) (, x x)))");
        Due.isSound(true, "x r (r r) (: y x (: x (n 1) (, x y)))");
        Due.isSound(true, "x (r r) (r r) (/ x y x (: x x (, y x)))");
    }

    private static void choices() {
        for (int i = 0; i < PARTS.length; i++) {
            Due.isTyped(i == 0 ? 1 : 0, "x i i (? " + PARTS[i] + " 1 2)");
            for (int j = 0; j < PARTS.length; j++) {
                Due.isTyped(i == j ? NUMBERS[i] : 0, "x i i (? x " + PARTS[i] + " " + PARTS[j] + ")");
            }
        }
        // Two types with one number, 111, are not the same.
        Due.isTyped(111, "x i i (, (, x x) (, x x))");
        Due.isTyped(111, "x i i (, x (, (, x x) x))");
        Due.isTyped(0, "x i i (? x (, (, x x) (, x x)) (, x (, (, x x) x)))");
        Due.isTyped(0, "x i i (? x (, x (, (, x x) x)) (, (, x x) (, x x)))");
    }

    private static void bindings() {
        for (int i = 0; i < PARTS.length; i++) {
            Due.isTyped(NUMBERS[i], "x i i (: y 1 " + PARTS[i] + ")");
            Due.isTyped(NUMBERS[i], "x i i (: y " + PARTS[i] + " y)");
            Due.isTyped(NUMBERS[i], "x i i (/ a b (, 1 1) " + PARTS[i] + ")");
            Due.isTyped(i < 2 ? 0 : 1, "x i i (/ a b " + PARTS[i] + " 1)");
            Due.isTyped(i < 2 ? 0 : 1, "x i i (/ a b " + PARTS[i] + " a)");
            Due.isTyped(i < 2 ? 0 : i == 2 ? 1 : 2, "x i i (/ a b " + PARTS[i] + " b)");
        }
        // What has no type can't be bound, used or not.
        Due.isTyped(0, "x i i (: y (d x) 1)");
        Due.isTyped(0, "x i i (: y (d x) y)");
        Due.isTyped(0, "x i i (/ a b (d x) 1)");
        Due.isTyped(0, "x i i (/ a b (, 1 (d x)) 1)");
    }

    private static void makingPairsAndCells() {
        for (int i = 0; i < PARTS.length; i++) {
            Due.isTyped(i == 0 ? 2 : 0, "x i i (n " + PARTS[i] + ")");
            for (int j = 0; j < PARTS.length; j++) {
                Due.isTyped(8 * NUMBERS[i] + NUMBERS[j] + 3, "x i i (, " + PARTS[i] + " " + PARTS[j] + ")");
            }
        }
        Due.isTyped(0, "x i i (, (d x) 1)");
        Due.isTyped(0, "x i i (, 1 (d x))");
    }

    private static void cells() {
        for (int i = 0; i < PARTS.length; i++) {
            Due.isTyped(i == 1 ? 13 : 0, "x i i (g " + PARTS[i] + ")");
            Due.isTyped(i == 1 ? 1 : 0, "x i i (d " + PARTS[i] + ")");
            for (int j = 0; j < PARTS.length; j++) {
                Due.isTyped(i == 1 && j == 0 ? 2 : 0, "x i i (p " + PARTS[i] + " " + PARTS[j] + ")");
            }
        }
    }

    private static void calls() {
        String[] types = {"i", "r", "(i i)", "(i r)"};
        for (int i = 0; i < types.length; i++) {
            for (int j = 0; j < types.length; j++) {
                LinearCells x = Due.with("x i i (@ 3 " + PARTS[j] + ")");
                Due.is("typed of a call of what is not there", 0, Due.typed(x, 0));
                Due.is("sound of a call of what is not there", false, x.sound(0));
                // Only what is written of 3 counts: its body has no type.
                Due.given(x, 3, "x " + types[i] + " " + types[j] + " (d (+ 1 (n 1)))");
                Due.is("typed of a call with " + PARTS[j] + " for " + types[i], i == j ? NUMBERS[j] : 0,
                    Due.typed(x, 0));
            }
        }
        // The numbers of (r (i i)) and (i (r i)) are the same, the types are not.
        LinearCells x = Due.with("x (i (r i)) i (@ 1 x)", "x (r (i i)) i 1");
        Due.is("typed of a call with another type of that number", 0, Due.typed(x, 0));
        Due.is("a call of itself", 2, Due.typed(Due.with("x i r (@ 0 x)"), 0));
    }

    private static void given() {
        String[] types = {"i", "r", "(i i)", "(i r)"};
        for (int i = 0; i < types.length; i++) {
            for (int j = 0; j < types.length; j++) {
                Due.isSound(i == j, "x i " + types[i] + " " + PARTS[j]);
                Due.isTyped(NUMBERS[j], "x i " + types[i] + " " + PARTS[j]);
            }
        }
        Due.isSound(true, "x i ((i i) (i i)) (, (, x x) (, x x))");
        Due.isSound(false, "x i (i ((i i) i)) (, (, x x) (, x x))");
        Due.isSound(true, "x i ((((i i) i) i) i) (, (, (, (, x 1) 2) 3) 4)");
        Due.isSound(false, "x i ((((i i) i) i) i) (, (, (, (, (, x 1) 2) 3) 4) 5)");
        // A body without a type is no fit for any U.
        Due.isSound(false, "x i i (+ x (n 1))");
    }

    private static void usedOnce() {
        for (int uses = 0; uses <= 3; uses++) {
            String frees = Due.times(uses, "(+ (d c) ") + "1" + Due.times(uses, ")");
            Due.isSound(uses == 1, "x i i (: c (n x) " + frees + ")");
            Due.isSound(uses == 1, "c r i " + frees);
            Due.isSound(uses == 1, "x i i (/ a c (, 1 (n x)) " + frees + ")");
            Due.isSound(uses == 1, "x i i (/ c a (, (n x) 1) " + frees + ")");
        }
        // Both parts of a pair of cells.
        for (int i = 0; i <= 2; i++) {
            for (int j = 0; j <= 2; j++) {
                String frees = Due.times(i, "(+(da)") + Due.times(j, "(+(db)") + "1" + Due.times(i + j, ")");
                Due.isSound(i == 1 && j == 1, "x (r r) i (/ab x" + frees + ")");
            }
        }
        // A pair with a cell in it is used as a whole: by / as well as by standing elsewhere.
        Due.isSound(true, "x (i r) (i r) x");
        Due.isSound(false, "x (i r) ((i r) (i r)) (, x x)");
        Due.isSound(true, "x (i r) i (/ a b x (d b))");
        Due.isSound(false, "x (i r) (i (i r)) (/ a b x (, (d b) x))");
        // To be bound is no use of the name.
        Due.isSound(false, "x r i (: x 1 x)");
        Due.isSound(false, "x r i (/ x y (, 1 1) x)");
    }

    private static String frees(int uses) {
        return uses == 0 ? "1" : uses == 1 ? "(dc)" : "(+(dc)(dc))";
    }

    private static void usedAlike() {
        for (int c = 0; c <= 2; c++) {
            for (int e = 0; e <= 2; e++) {
                for (int f = 0; f <= 2; f++) {
                    String choice = "(?" + frees(c) + " " + frees(e) + " " + frees(f) + ")";
                    boolean due = c + e == 1 && c + f == 1;
                    Due.isSound(due, "c r i " + choice);
                    Due.isSound(due, "x i i (:c(nx)" + choice + ")");
                    Due.isSound(due, "x i i (? x (:c(nx)" + choice + ") 1)");
                    Due.isSound(due, "x i i (:c(nx)(+ 1 " + choice + "))");
                    Due.isSound(c + e == 0 && c + f == 0, "x i i (:c(nx)(+ (dc) " + choice + "))");
                }
            }
        }
        // Two in a third one, and two beside one another.
        for (int ways = 0; ways < 16; ways++) {
            String e = "(?x" + frees(ways & 1) + " " + frees(ways >> 1 & 1) + ")";
            String f = "(?x" + frees(ways >> 2 & 1) + " " + frees(ways >> 3 & 1) + ")";
            Due.isSound(ways == 15, "x i i (:c(nx)(?x" + e + f + "))");
            Due.isSound(ways == 3 || ways == 12, "x i i (:c(nx)(+" + e + f + "))");
        }
    }

    private static void otherOnes() {
        for (String type : new String[] {"i", "(i i)", "((i i) i)"}) {
            Due.isSound(true, "x " + type + " i 1");
            Due.isSound(true, "x " + type + " " + type + " x");
            Due.isSound(true, "x " + type + " i (: y (, x x) (: z (, x y) (: x x 1)))");
            Due.isSound(true, "x " + type + " i (? 1 (: y x 1) 1)");
            Due.isSound(true, "x " + type + " i (? 1 1 (: y (, x x) 1))");
        }
        Due.isSound(true, "x i i " + Due.times(16, "(+x") + "x" + Due.times(16, ")"));
        Due.isSound(true, "x (i i) i (/ a b x 1)");
        Due.isSound(true, "x (i i) i (/ a b x (+ a a))");
        Due.isSound(true, "x (i r) i (/ a b x (d b))");
    }

    private static void calledOnes() {
        String good = "x i i x";
        // Types, uses, what it should give, a call of what is not there (3 is not there then).
        String[] faults = {"x i i (d x)", "x i i (: c (n x) x)", "x i i (n x)", "x i i (@ 3 x)"};
        for (String fault : faults) {
            LinearCells x = Due.with("x i i (@ 1 x)", "x i i (@ 2 x)", good);
            Due.is("a row of calls: sound(0)", true, x.sound(0));
            for (int k = 2; k >= 0; k--) {
                LinearCells y = Due.with("x i i (@ 1 x)", "x i i (@ 2 x)", good);
                Due.given(y, k, fault);
                for (int caller = 0; caller <= 2; caller++) {
                    Due.is("'" + fault + "' as " + k + ": sound(" + caller + ")", caller > k, y.sound(caller));
                }
            }
        }
        // Three calls away, in each order of the numbers.
        int[][] rows = {{0, 1, 2, 3}, {3, 2, 1, 0}, {1, 3, 0, 2}, {2, 0, 3, 1}};
        for (int[] row : rows) {
            LinearCells x = new LinearCells();
            for (int i = 0; i < 3; i++) {
                Due.given(x, row[i], "x i i (@ " + row[i + 1] + " x)");
                Due.is("the last one is not there", false, x.sound(row[0]));
            }
            Due.given(x, row[3], "x i i (@ " + row[0] + " x)");
            for (int k = 0; k < 4; k++) {
                Due.is("a ring of four: sound(" + k + ")", true, x.sound(k));
            }
            Due.given(x, row[3], "x i i (: c (n x) (@ " + row[0] + " x))");
            for (int k = 0; k < 4; k++) {
                Due.is("a ring of four with a fault: sound(" + k + ")", false, x.sound(k));
            }
        }
        // Each of several calls counts.
        for (int k = 1; k <= 3; k++) {
            LinearCells x = Due.with("x i i (+ (@ 1 x) (? x (@ 2 x) (@ 3 x)))", good, good, good);
            Due.is("three calls: sound(0)", true, x.sound(0));
            Due.given(x, k, "x i i (: c (n x) x)");
            Due.is("three calls, a fault in " + k + ": sound(0)", false, x.sound(0));
        }
        // A call counts where no run can come to it, and one that is not called does not.
        Due.is("not come to", false, Due.with("x i i (? 1 x (@ 1 x))", faults[0]).sound(0));
        Due.is("not called", true, Due.with(good, faults[0], faults[1], faults[2]).sound(0));
        Due.is("it calls itself", true, Due.with("x i i (@ 0 x)").sound(0));
    }

    private static void soundOfNone() {
        LinearCells x = new LinearCells();
        for (int k : new int[] {Integer.MIN_VALUE, -1, 0, 1, 2, 3, 4, 32, Integer.MAX_VALUE}) {
            Due.is("sound(" + k + ") of a new object", false, x.sound(k));
        }
        for (int k = 0; k <= 3; k++) {
            Due.given(x, k, "x i i x");
            for (int other = 0; other <= 3; other++) {
                Due.is("sound(" + other + ") behind define(" + k + ")", other <= k, x.sound(other));
            }
        }
        for (int k : new int[] {Integer.MIN_VALUE, -4, -1, 4, 5, 32, 33, 256, Integer.MAX_VALUE}) {
            Due.is("sound(" + k + ") with all four", false, x.sound(k));
        }
    }

    private static void numbersOfTypes() {
        Due.isTyped(1, "x i i x");
        Due.isTyped(2, "x r i x");
        Due.isTyped(8 * 1 + 1 + 3, "x (i i) i x");
        Due.isTyped(8 * 1 + 2 + 3, "x (i r) i x");
        Due.isTyped(8 * 2 + 1 + 3, "x (r i) i x");
        Due.isTyped(8 * 2 + 2 + 3, "x (r r) i x");
        Due.isTyped(8 * 1 + 13 + 3, "x (i (i r)) i x");
        Due.isTyped(8 * 13 + 1 + 3, "x ((i r) i) i x");
        // The largest one that can be written.
        int number = 2;
        String type = "r";
        for (int deep = 1; deep <= 4; deep++) {
            number = 9 * number + 3;
            type = "(" + type + type + ")";
        }
        Due.isTyped(number, "x" + type + "ix");
    }

    private static void numbersGoRound() {
        int number = 1;
        long whole = 1;
        String text = "x";
        for (int deep = 1; deep <= 16; deep++) {
            number = 8 * number + 1 + 3;
            whole = 8 * whole + 1 + 3;
            text = "(," + text + "x)";
            Due.isTyped((int) whole, "xii" + text);
            Due.isTyped(number, "xii" + text);
        }
        Due.is("the last one is no int", true, whole > Integer.MAX_VALUE);
        number = 2;
        text = "xii(:x(nx)";
        String end = "x)";
        for (int deep = 1; deep <= 12; deep++) {
            number = 9 * number + 3;
            text = text + "(:x(,xx)";
            end = end + ")";
            Due.isTyped(number, text + end);
        }
    }

    private static void noType() {
        String[] wrapped = {"(+ o 1)", "(+ 1 o)", "(? o 1 1)", "(? 1 o 1)", "(? 1 1 o)", "(? 1 o o)", "(: y o 1)",
            "(: y 1 o)", "(, o 1)", "(, 1 o)", "(/ a b o 1)", "(/ a b (, 1 1) o)", "(n o)", "(g o)", "(p o 1)",
            "(p (n 1) o)", "(d o)", "(@ 0 o)"};
        for (String form : wrapped) {
            Due.isTyped(0, "x i i " + form.replace("o", "(+ x (n 1))"));
            Due.isTyped(0, "x i i (: y " + form.replace("o", "(d x)") + " 1)");
        }
        Due.isTyped(0, "x i i (@ 1 x)");
    }

    private static void usesDontCount() {
        for (int uses = 0; uses <= 3; uses++) {
            String frees = Due.times(uses, "(+ (d c) ") + "1" + Due.times(uses, ")");
            Due.isTyped(1, "x i i (: c (n x) " + frees + ")");
            Due.isTyped(1, "c r i " + frees);
            Due.isTyped(1, "c r i (? 1 " + frees + " 1)");
        }
        Due.isTyped(21, "x r i (, x x)");
    }

    private static void typedOfNone() {
        LinearCells x = new LinearCells();
        for (int k : new int[] {Integer.MIN_VALUE, -1, 0, 1, 2, 3, 4, Integer.MAX_VALUE}) {
            Due.is("typed(" + k + ") of a new object", Due.ILLEGAL_STATE, Due.typed(x, k));
        }
        for (int k = 0; k <= 3; k++) {
            Due.given(x, k, "x i i x");
            for (int other = 0; other <= 3; other++) {
                Due.is("typed(" + other + ") behind define(" + k + ")", other <= k ? 1 : Due.ILLEGAL_STATE,
                    Due.typed(x, other));
            }
        }
        for (int k : new int[] {Integer.MIN_VALUE, -4, -1, 4, 5, 32, 256, Integer.MAX_VALUE}) {
            Due.is("typed(" + k + ") with all four", Due.ILLEGAL_STATE, Due.typed(x, k));
        }
    }
}
