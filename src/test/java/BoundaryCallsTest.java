import java.util.Collections;

/** The sentences about single calls, their exceptions and how many there may be, that name a boundary case. */
public final class BoundaryCallsTest {
    private static final int MOST_CALLS = 512;
    private static final int[] NO_PROCEDURE_NUMBERS = {Integer.MIN_VALUE, -4, -1, 4, 5, 32, 256, Integer.MAX_VALUE};
    private static final String CELLS = "x i i (? x (: c (n x) (@ 0 (- x 1))) 7)";
    // Doubles the second part of its pair four times for each of the first part.
    private static final String DOUBLING = "x i i (/kyx(?k(:y(,yy)(:y(,yy)(:y(,yy)(:y(,yy)(@0(,(-k1)y))))))y))";

    public static void main(String[] args) {
        Due.sentence("used for at most 512 calls", BoundaryCallsTest::mostCalls);
        Due.sentence("the first one listed is thrown", BoundaryCallsTest::firstListed);
        Due.sentence("what throws changes nothing", BoundaryCallsTest::changesNothing);
        Due.sentence("define() empties the draft in any case", BoundaryCallsTest::emptiesTheDraft);
        Due.sentence("new: No procedures", BoundaryCallsTest::noProcedures);
        Due.sentence("new: an empty draft", BoundaryCallsTest::emptyDraft);
        Due.sentence("new: no run", BoundaryCallsTest::noRun);
        Due.sentence("draft: up to eight characters behind the draft", BoundaryCallsTest::upToEight);
        Due.sentence("draft: the lowest first, up to the first zero byte", BoundaryCallsTest::firstZeroByte);
        Due.sentence("draft: False, if the lowest byte is 0", BoundaryCallsTest::lowestByteZero);
        Due.sentence("draft: False, one of them is not 32 .. 126", BoundaryCallsTest::otherBytes);
        Due.sentence("draft: False, it would have more than 120", BoundaryCallsTest::mostCharacters);
        Due.sentence("draft: refused", BoundaryCallsTest::refusedAsAWhole);
        Due.sentence("define: how many expressions its body has", BoundaryCallsTest::expressions);
        Due.sentence("define: in place of an older one", BoundaryCallsTest::inPlace);
        Due.sentence("define: no number 0 .. 3", BoundaryCallsTest::noNumber);
        Due.sentence("define: it is no text of a procedure", BoundaryCallsTest::noText);
        Due.sentence("define: a variable is used where it stands for nothing", BoundaryCallsTest::standsForNothing);
        Due.sentence("value: all 0 if there was none, or it trapped", BoundaryCallsTest::noValue);
        Due.sentence("value: 1 a number, 2 a cell, 3 a pair", BoundaryCallsTest::kinds);
        Due.sentence("value: the number, or the place", BoundaryCallsTest::numberOrPlace);
        Due.sentence("value: the first number in it (0 if there is none)", BoundaryCallsTest::firstNumber);
        Due.sentence("value: each as often as it stands", BoundaryCallsTest::asOftenAsItStands);
        Due.sentence("value: both as ints, which go round", BoundaryCallsTest::countsGoRound);
        Due.sentence("value: IllegalArgumentException: another what", BoundaryCallsTest::otherValue);
        Due.sentence("heap: how many places are not free", BoundaryCallsTest::notFree);
        Due.sentence("heap: made, freed, pairs made, begun", BoundaryCallsTest::counts);
        Due.sentence("heap: All 0 if there was none", BoundaryCallsTest::noHeap);
        Due.sentence("heap: IllegalArgumentException: another what", BoundaryCallsTest::otherHeap);
        Due.sentence("cell: The number in a place's cell", BoundaryCallsTest::numberInCell);
        Due.sentence("cell: IndexOutOfBoundsException: no place", BoundaryCallsTest::noPlace);
        Due.sentence("cell: or it is free", BoundaryCallsTest::freePlace);
        Due.sentence("Of the latest run", BoundaryCallsTest::latestRun);
        Due.end();
    }

    private static void mostCalls() {
        runsUpToTheLastCall();
        definesUpToTheLastCall();
        refusalsUpToTheLastCall();
    }

    /** The dearest calls: 120 pairs in a run, and then what is in them. */
    private static void runsUpToTheLastCall() {
        LinearCells x = new LinearCells();
        int calls = 0;
        String text = "xii(?x(:y(,(,(,1 2)(,3 4))(,(,5 6)7))(@0(-x1)))x)";
        for (int from = 0; from < text.length(); from += 8) {
            x.draft(Due.word(text, from));
            calls++;
        }
        Due.is("define(0)", 21, Due.defined(x, 0));
        calls++;
        for (; calls + 5 <= MOST_CALLS; calls += 5) {
            Due.is("run(0, 20), call " + (calls + 1), 0, Due.run(x, 0, 20));
            Due.is("heap(3), call " + (calls + 2), 120, Due.heap(x, 3));
            Due.is("typed(0), call " + (calls + 3), 1, Due.typed(x, 0));
            Due.is("sound(0), call " + (calls + 4), true, x.sound(0));
            Due.is("run(0, 21), call " + (calls + 5), 2, Due.run(x, 0, 21));
        }
        for (; calls < MOST_CALLS; calls++) {
            Due.is("run(0, 20), call " + (calls + 1), 0, Due.run(x, 0, 20));
        }
    }

    private static void definesUpToTheLastCall() {
        LinearCells x = new LinearCells();
        for (int calls = 0; calls < MOST_CALLS; calls += 4) {
            int k = calls / 4 % 4;
            Due.is("draft, call " + (calls + 1), true, x.draft(Due.word("x i i ", 0)));
            Due.is("draft, call " + (calls + 2), true, x.draft(Due.word("" + calls, 0)));
            Due.is("define, call " + (calls + 3), 1, Due.defined(x, k));
            if (calls + 4 < MOST_CALLS) {
                Due.is("run, call " + (calls + 4), 0, Due.run(x, k, 0));
            } else {
                Due.is("sound, call " + (calls + 4), true, x.sound(k));
            }
        }
    }

    private static void refusalsUpToTheLastCall() {
        LinearCells x = new LinearCells();
        Due.given(x, 1, "x i r (n x)");
        Due.is("run(1, 6)", 0, Due.run(x, 1, 6));
        for (int calls = 4; calls + 8 < MOST_CALLS; calls += 8) {
            Due.is("define(0)", Due.ILLEGAL_ARGUMENT, Due.defined(x, 0));
            Due.is("typed(0)", Due.ILLEGAL_STATE, Due.typed(x, 0));
            Due.is("run(0, 0)", Due.ILLEGAL_STATE, Due.run(x, 0, 0));
            Due.is("value(4)", Due.ILLEGAL_ARGUMENT, Due.value(x, 4));
            Due.is("heap(5)", Due.ILLEGAL_ARGUMENT, Due.heap(x, 5));
            Due.is("cell(12)", Due.OUT_OF_BOUNDS, Due.cell(x, 12));
            Due.is("draft(0)", false, x.draft(0));
            Due.is("cell(0)", 6, Due.cell(x, 0));
        }
        Due.is("cell(0) as one of the last calls", 6, Due.cell(x, 0));
    }

    private static void firstListed() {
        String unbound = "x i i y";
        for (int k : NO_PROCEDURE_NUMBERS) {
            Due.is("define(" + k + ") with y", Due.ILLEGAL_ARGUMENT, Due.defined(new LinearCells(), k, unbound));
            Due.is("define(" + k + ") of no text", Due.ILLEGAL_ARGUMENT, Due.defined(new LinearCells(), k, "y y"));
        }
        for (int k = 0; k <= 3; k++) {
            Due.is("define(" + k + ") with y", Due.UNSUPPORTED, Due.defined(new LinearCells(), k, unbound));
        }
        // The variable that stands for nothing comes first in the text, and then what makes it none.
        Due.refuses("x i i (+ y");
        Due.refuses("x i i (+ y 1");
        Due.refuses("x i i (+ y 1))");
        Due.refuses("x i i (+ y 12345)");
        Due.refuses("x i i (+ y (@ 4 x))");
        Due.refuses("x i i (+ y (/ a a x x))");
        Due.refuses("x i i (+ y (q x))");
        Due.refuses("x i i (+ y Z)");
        Due.refuses("x i i y .");
        Due.refuses("xii(+y" + Due.times(16, "(n") + "x" + Due.times(17, ")"));
    }

    /** An object with two procedures, a run that left a cell and a pair, and a draft. */
    private static LinearCells used() {
        LinearCells x = Due.with("x i (i r) (g (n x))", "", "x i i (: c (n x) x)");
        Due.is("run(0, 8)", 0, Due.run(x, 0, 8));
        Due.draft(x, "x i i (+ ");
        return x;
    }

    private static void changesNothing() {
        String fresh = Due.answers(used()).toString();
        for (int call = 0; call < 9; call++) {
            LinearCells x = used();
            throwBy(x, call);
            Due.is("the same answers behind throwing call " + call, true, fresh.equals(Due.answers(x).toString()));
            Due.is("the draft behind throwing call " + call, 3, Due.defined(x, 3, "x 4)"));
            Due.is("run(3, 5)", 0, Due.run(x, 3, 5));
            Due.is("value(1)", 9, Due.value(x, 1));
            Due.is("run(0, 5)", 0, Due.run(x, 0, 5));
            Due.values("run(0, 5)", x, 3, 5, 1, 1);
        }
        String[] refused = {"", "y i", "x i i (+ x", "x i i y", "x r r (@ 1 y)", "x(rr)(ri)(/abx(,b(@3z)))"};
        for (String text : refused) {
            for (int k = -1; k <= 4; k++) {
                LinearCells x = used();
                Due.is("define(-1)", Due.ILLEGAL_ARGUMENT, Due.defined(x, -1));
                Due.is("'" + text + "' is refused", true, Due.defined(x, k, text) < 0);
                Due.is("the same answers behind '" + text + "'", true, fresh.equals(Due.answers(x).toString()));
                Due.is("run(2, 5)", 0, Due.run(x, 2, 5));
                Due.heaps("run(2, 5)", x, 1, 1, 0, 0, 4);
            }
        }
    }

    private static void throwBy(LinearCells x, int call) {
        int answer = switch (call) {
            case 0 -> Due.typed(x, 1);
            case 1 -> Due.typed(x, 4);
            case 2 -> Due.run(x, 1, 3);
            case 3 -> Due.run(x, -1, 3);
            case 4 -> Due.value(x, 4);
            case 5 -> Due.heap(x, 5);
            case 6 -> Due.heap(x, -1);
            case 7 -> Due.cell(x, 1);
            default -> Due.cell(x, 12);
        };
        Due.is("call " + call + " throws", true, answer <= Due.ILLEGAL_ARGUMENT);
    }

    private static void emptiesTheDraft() {
        String[] texts = {"x i i x", "x i i y", "x i i", ""};
        for (String text : texts) {
            for (int k = -1; k <= 4; k++) {
                LinearCells x = new LinearCells();
                Due.defined(x, k, text);
                Due.is("define of nothing behind '" + text + "'", Due.ILLEGAL_ARGUMENT, Due.defined(x, 0));
                Due.defined(x, k, text);
                Due.is("nothing of '" + text + "' is left", 1, Due.defined(x, 0, "z i i z"));
                Due.defined(x, k, text + Due.times(120 - text.length(), " "));
                Due.draft(x, Due.times(120, " "));
            }
        }
    }

    private static void noProcedures() {
        LinearCells x = new LinearCells();
        for (int k = 0; k <= 3; k++) {
            Due.is("sound(" + k + ")", false, x.sound(k));
            Due.is("typed(" + k + ")", Due.ILLEGAL_STATE, Due.typed(x, k));
            Due.is("run(" + k + ", 0)", Due.ILLEGAL_STATE, Due.run(x, k, 0));
        }
        // Another object's procedures are its own.
        LinearCells other = Due.with("x i i x", "x i i x", "x i i x", "x i i x");
        for (int k = 0; k <= 3; k++) {
            Due.is("sound(" + k + ") of the other one", true, other.sound(k));
            Due.is("sound(" + k + ")", false, x.sound(k));
            Due.is("sound(" + k + ") of a third one", false, new LinearCells().sound(k));
        }
    }

    private static void emptyDraft() {
        Due.is("define of nothing", Due.ILLEGAL_ARGUMENT, Due.defined(new LinearCells(), 0));
        LinearCells x = new LinearCells();
        Due.draft(x, "x i i x" + Due.times(113, " "));
        Due.is("the 121st character", false, x.draft(' '));
        Due.is("a third object's draft", Due.ILLEGAL_ARGUMENT, Due.defined(new LinearCells(), 0));
        Due.is("define", 1, Due.defined(x, 0));
    }

    private static void noRun() {
        LinearCells x = new LinearCells();
        Due.values("no run", x, 0, 0, 0, 0);
        Due.heaps("no run", x, 0, 0, 0, 0, 0);
        Due.cells("no run", x);
        // To define and check a procedure is no run of it.
        Due.given(x, 0, "x i (i r) (g (n x))");
        Due.is("sound(0)", true, x.sound(0));
        Due.is("typed(0)", 13, Due.typed(x, 0));
        Due.values("still no run", x, 0, 0, 0, 0);
        Due.heaps("still no run", x, 0, 0, 0, 0, 0);
        Due.cells("still no run", x);
    }

    private static void upToEight() {
        String text = "x i i (+ x 1234)";
        for (int most = 1; most <= 8; most++) {
            LinearCells x = new LinearCells();
            for (int from = 0; from < text.length(); from += most) {
                String piece = text.substring(from, Math.min(from + most, text.length()));
                Due.is("draft of '" + piece + "'", true, x.draft(Due.word(piece, 0)));
            }
            Due.is("define from pieces of " + most, 3, Due.defined(x, 0));
            Due.is("run(0, 1)", 0, Due.run(x, 0, 1));
            Due.is("value(1)", 1235, Due.value(x, 1));
        }
        // Eight characters leave no zero byte, and nothing is read behind them.
        LinearCells y = new LinearCells();
        Due.is("draft of 'x i i 12'", true, y.draft(0x3231206920692078L));
        Due.is("draft of '34'", true, y.draft(0x3433L));
        Due.is("define", 1, Due.defined(y, 0));
        Due.is("run(0, 0)", 0, Due.run(y, 0, 0));
        Due.is("value(1)", 1234, Due.value(y, 1));
    }

    private static void firstZeroByte() {
        // What stands behind the first zero byte does not count, whatever it is.
        for (int length = 1; length <= 7; length++) {
            for (long behind : new long[] {0, 'x', 1, 31, 127, 128, 255, '7'}) {
                long s = 0;
                for (int i = 7; i > length; i--) {
                    s = s << 8 | behind;
                }
                s = s << 8;
                for (int i = length - 1; i >= 0; i--) {
                    s = s << 8 | (i == 0 ? '7' : ' ');
                }
                LinearCells x = new LinearCells();
                Due.draft(x, "x i i ");
                Due.is("draft of " + Long.toHexString(s), true, x.draft(s));
                Due.is("define behind " + Long.toHexString(s), 1, Due.defined(x, 0));
                Due.is("run", 0, Due.run(x, 0, 0));
                Due.is("value(1)", 7, Due.value(x, 1));
            }
        }
    }

    private static void lowestByteZero() {
        for (long s : new long[] {0, 0x7800, 0x7820692069207800L, Long.MIN_VALUE, 0xFFFFFFFFFFFFFF00L, 0x0100000000L}) {
            LinearCells x = new LinearCells();
            Due.draft(x, "x i i 7");
            Due.is("draft(" + s + ")", false, x.draft(s));
            Due.is("define behind draft(" + s + ")", 1, Due.defined(x, 0));
            Due.is("draft(" + s + ") first", false, x.draft(s));
            Due.is("define behind it", Due.ILLEGAL_ARGUMENT, Due.defined(x, 0));
        }
    }

    private static void otherBytes() {
        for (int character = 1; character < 256; character++) {
            boolean good = character >= 32 && character <= 126;
            for (int length = 1; length <= 8; length++) {
                for (int at = 0; at < length; at++) {
                    long s = 0;
                    for (int i = length - 1; i >= 0; i--) {
                        s = s << 8 | (i == at ? character : ' ');
                    }
                    Due.is("draft(0x" + Long.toHexString(s) + ")", good, new LinearCells().draft(s));
                }
            }
        }
        Due.is("draft(-1)", false, new LinearCells().draft(-1));
        Due.is("draft(Long.MAX_VALUE)", false, new LinearCells().draft(Long.MAX_VALUE));
    }

    private static void mostCharacters() {
        for (int before = 0; before <= 120; before++) {
            for (int more = 1; more <= 8; more++) {
                LinearCells x = new LinearCells();
                Due.draft(x, Due.times(before, " "));
                Due.is(more + " characters behind " + before, before + more <= 120,
                    x.draft(Due.word(Due.times(more, " "), 0)));
            }
        }
        Due.takes(3, "x i i (+ x" + Due.times(105, " ") + "1234)");
        Due.takes(1, "x i i " + Due.times(113, " ") + "x");
    }

    private static void refusedAsAWhole() {
        // One of the eight is bad: the seven others are not taken either.
        for (int at = 0; at < 8; at++) {
            LinearCells x = new LinearCells();
            Due.draft(x, "x i i 7");
            long bad = 0x3838383838383838L & ~(255L << 8 * at) | 200L << 8 * at;
            Due.is("draft with a bad character at " + at, false, x.draft(bad));
            Due.is("define", 1, Due.defined(x, 0));
            Due.is("run", 0, Due.run(x, 0, 0));
            Due.is("value(1)", 7, Due.value(x, 1));
        }
        // There is room for some of the eight only: none is taken.
        for (int room = 0; room < 8; room++) {
            LinearCells x = new LinearCells();
            Due.draft(x, "x i i " + Due.times(113 - room, " ") + "7");
            Due.is("eight characters, room for " + room, false, x.draft(0x3838383838383838L));
            Due.draft(x, Due.times(room, " "));
            Due.is("one more", false, x.draft(' '));
            Due.is("define", 1, Due.defined(x, 0));
            Due.is("run", 0, Due.run(x, 0, 0));
            Due.is("value(1)", 7, Due.value(x, 1));
        }
    }

    private static void expressions() {
        Due.takes(1, "x i i x");
        Due.takes(1, "x i i 1234");
        Due.takes(2, "x i i (n x)");
        Due.takes(2, "x i i (@ 3 x)");
        Due.takes(3, "x i i (: y x y)");
        Due.takes(3, "x i i (/ y z x y)");
        Due.takes(4, "x i i (? x x x)");
        // The most that 120 characters can hold: each ? brings three expressions for five characters.
        for (int choices = 1; choices <= 11; choices++) {
            Due.takes(3 * (2 * choices + 1) + 1,
                "xii" + Due.times(choices, "(?x") + "(?xxx)" + Due.times(choices, "(?xxx))"));
        }
        // The names that : and / bind are no expressions, and neither is the k of @.
        Due.takes(33, "xii" + Due.times(16, "(/xyx") + "y" + Due.times(16, ")"));
        Due.takes(33, "xii" + Due.times(16, "(:xx") + "x" + Due.times(16, ")"));
        Due.takes(47, "xii" + Due.times(7, "(:y(:yxx)") + Due.times(9, "(:yx") + "x" + Due.times(16, ")"));
        // The older one's number of expressions does not count.
        LinearCells x = Due.with("xii" + Due.times(16, "(+1") + "x" + Due.times(16, ")"));
        Due.is("a smaller one in its place", 1, Due.defined(x, 0, "x i i x"));
        Due.is("a smaller one beside it", 2, Due.defined(x, 1, "x i i (n x)"));
    }

    private static void inPlace() {
        for (int k = 0; k <= 3; k++) {
            LinearCells x = Due.with("x i i 0", "x i i 1", "x i i 2", "x i i 3");
            Due.is("the new one", 2, Due.defined(x, k, "x i r (n 9)"));
            for (int other = 0; other <= 3; other++) {
                Due.is("typed(" + other + ")", other == k ? 2 : 1, Due.typed(x, other));
                Due.is("run(" + other + ", 5)", 0, Due.run(x, other, 5));
                Due.is("value(1)", other == k ? 0 : other, Due.value(x, 1));
                Due.is("heap(0)", other == k ? 1 : 0, Due.heap(x, 0));
            }
        }
        // Callers see the new one, and what the old one called does not count any more.
        LinearCells x = Due.with("x i i (@ 1 x)", "x i i (@ 2 x)", "x i i (d x)");
        Due.is("sound(0)", false, x.sound(0));
        Due.is("run(0, 5)", 4, Due.run(x, 0, 5));
        Due.given(x, 1, "x i i (+ x 1)");
        Due.is("sound(0)", true, x.sound(0));
        Due.is("run(0, 5)", 0, Due.run(x, 0, 5));
        Due.is("value(1)", 6, Due.value(x, 1));
        // Many times, with the texts of older ones in between.
        for (int i = 0; i < 10; i++) {
            Due.given(x, 3, "x i i " + i);
            Due.is("y", Due.UNSUPPORTED, Due.defined(x, 3, "x r r (n (n y))"));
            Due.is("sound(3)", true, x.sound(3));
            Due.is("run(3, 0)", 0, Due.run(x, 3, 0));
            Due.is("value(1)", i, Due.value(x, 1));
            Due.is("typed(1)", 1, Due.typed(x, 1));
        }
    }

    private static void noNumber() {
        for (int k : NO_PROCEDURE_NUMBERS) {
            LinearCells x = new LinearCells();
            Due.is("define(" + k + ")", Due.ILLEGAL_ARGUMENT, Due.defined(x, k, "x i i x"));
            for (int other = 0; other <= 3; other++) {
                Due.is("typed(" + other + ") behind it", Due.ILLEGAL_STATE, Due.typed(x, other));
            }
        }
        for (int k = 0; k <= 3; k++) {
            LinearCells x = new LinearCells();
            Due.is("define(" + k + ")", 1, Due.defined(x, k, "x i i x"));
            for (int other = 0; other <= 3; other++) {
                Due.is("typed(" + other + ") behind it", other == k ? 1 : Due.ILLEGAL_STATE, Due.typed(x, other));
            }
        }
    }

    private static void noText() {
        for (int k = 0; k <= 3; k++) {
            for (String text : new String[] {"", " ", "x", "x i", "x i i", "x i i x x", "x i i (+ x", "X i i 1"}) {
                LinearCells x = new LinearCells();
                Due.is("define(" + k + ") of '" + text + "'", Due.ILLEGAL_ARGUMENT, Due.defined(x, k, text));
                Due.is("typed(" + k + ") behind it", Due.ILLEGAL_STATE, Due.typed(x, k));
            }
        }
        // 120 characters are a text or none by what they say.
        Due.takes(59, "xii" + Due.sum(Collections.nCopies(30, "x")));
        Due.refuses(Due.times(120, "x"));
        Due.refuses(Due.times(120, "("));
        Due.refuses("xii" + Due.times(117, "("));
        Due.refuses("xii" + Due.times(39, "(+x"));
        Due.refuses("x" + Due.times(119, "("));
        Due.refuses("xii" + Due.times(117, "1"));
    }

    private static void standsForNothing() {
        Due.misses("x i i y");
        Due.misses("x i i i");
        Due.misses("x i i r");
        // In e the name of : or / does not stand for anything yet, and behind f no more.
        Due.misses("x i i (: y y x)");
        Due.takes(3, "x i i (: y x y)");
        Due.misses("x i i (+ (: y x y) y)");
        Due.misses("x i i (+ y (: y x y))");
        Due.misses("x i i (/ a b a x)");
        Due.misses("x i i (/ a b b x)");
        Due.takes(5, "x i i (/ a b x (+ a b))");
        Due.misses("x i i (+ (/ a b x a) a)");
        Due.misses("x i i (+ (/ a b x a) b)");
        Due.misses("x i i (: y (: z 1 z) z)");
        // The procedure's own variable is hidden in f, and stands for it again behind f.
        Due.takes(5, "x i i (+ (: x 1 x) x)");
        Due.takes(5, "x i i (: x (+ x x) x)");
        // In each part of each form.
        String[] forms = {"(+ o x)", "(+ x o)", "(- o x)", "(* x o)", "(< o x)", "(? o x x)", "(? x o x)", "(? x x o)",
            "(: y o x)", "(: y x o)", "(, o x)", "(, x o)", "(/ y z o x)", "(/ y z x o)", "(n o)", "(g o)", "(p o x)",
            "(p x o)", "(d o)", "(@ 0 o)"};
        for (String form : forms) {
            Due.misses("x i i " + form.replace("o", "q"));
        }
        // Another procedure's variable is none here.
        LinearCells x = Due.with("q i i q");
        Due.is("q", Due.UNSUPPORTED, Due.defined(x, 1, "x i i q"));
        Due.is("q", Due.UNSUPPORTED, Due.defined(x, 0, "x i i (@ 0 q)"));
    }

    private static void noValue() {
        Due.values("no run", new LinearCells(), 0, 0, 0, 0);
        LinearCells x = Due.with("x i i (, 7 (n x))", "x i i (: c (n x) (, 7 (+ (d c) (d c))))",
            "x i i (: c (n x) (, c (@ 2 x)))", "x i i (, x (@ 3 (? x x (d x))))");
        int[][] trapped = {{1, 1, 1}, {2, 1, 2}, {3, 1, 3}, {3, 0, 4}};
        for (int[] run : trapped) {
            Due.is("run(0, 5)", 0, Due.run(x, 0, 5));
            Due.values("run(0, 5)", x, 3, 7, 1, 1);
            Due.is("run(" + run[0] + ", " + run[1] + ")", run[2], Due.run(x, run[0], run[1]));
            Due.values("behind trap " + run[2], x, 0, 0, 0, 0);
        }
    }

    private static void kinds() {
        Due.values("a number", Due.ran(0, "x i i x", 0), 1, 0, 0, 1);
        Due.values("a cell", Due.ran(0, "x i i (n x)", 0), 2, 0, 1, 0);
        Due.values("a pair", Due.ran(0, "x i i (, x x)", 0), 3, 0, 0, 2);
        Due.values("a pair of g", Due.ran(0, "x i i (g (n x))", 0), 3, 0, 1, 1);
    }

    private static void numberOrPlace() {
        for (int n : new int[] {Integer.MIN_VALUE, -1, 0, 1, Integer.MAX_VALUE}) {
            Due.values("the number " + n, Due.ran(0, "x i i x", n), 1, n, 0, 1);
        }
        for (int place = 0; place <= 11; place++) {
            LinearCells x = Due.ran(0, "x i i (? x (: c (n 50) (@ 0 (- x 1))) (n 60))", place);
            Due.values("the place " + place, x, 2, place, 1, 0);
        }
    }

    private static void firstNumber() {
        Due.values("1st", Due.ran(0, "x i i (, x 8)", 5), 3, 5, 0, 2);
        Due.values("2nd", Due.ran(0, "x i i (, (n 8) x)", 5), 3, 5, 1, 1);
        Due.values("none", Due.ran(0, "x i i (, (n 8) (n x))", 5), 3, 0, 2, 0);
        Due.values("none, in pairs", Due.ran(0, "x i i (, (, (n 8) (n 7)) (, (n 6) (n x)))", 5), 3, 0, 4, 0);
        Due.values("into the first part first", Due.ran(0, "x i i (, (, (n 1) x) 8)", 5), 3, 5, 1, 2);
        Due.values("from the first part on", Due.ran(0, "x i i (, (, x (n 1)) (, 8 9))", 5), 3, 5, 1, 3);
        Due.values("not the nearest one", Due.ran(0, "x i i (, (, (, (, x 9) 8) 7) 6)", 5), 3, 5, 0, 5);
        Due.values("the last one of all", Due.ran(0, "x i i (, (n 1) (, (, (n 2) (n 3)) (, (n 4) x)))", 5), 3, 5, 4, 1);
        Due.values("0 is one, too", Due.ran(0, "x i i (, (, (n 1) x) 8)", 0), 3, 0, 1, 2);
        Due.values("a negative one", Due.ran(0, "x i i (, (n 1) (, x 8))", -5), 3, -5, 1, 2);
        // Its cells' numbers and places are not in it.
        Due.values("cells", Due.ran(0, "x i i (: a (n 9) (, (n 8) (n 7)))", 5), 3, 0, 2, 0);
    }

    private static void asOftenAsItStands() {
        Due.values("one cell", Due.ran(0, "x i i (: c (n x) c)", 5), 2, 0, 1, 0);
        Due.values("one cell twice", Due.ran(0, "x i i (: c (n x) (, c c))", 5), 3, 0, 2, 0);
        Due.values("one cell thrice", Due.ran(0, "x i i (: c (n x) (, c (, c c)))", 5), 3, 0, 3, 0);
        Due.values("one pair twice", Due.ran(0, "x i i (: y (, x (n 1)) (, y y))", 5), 3, 5, 2, 2);
        Due.values("one pair thrice", Due.ran(0, "x i i (: y (, x (n 1)) (, (, y y) y))", 5), 3, 5, 3, 3);
        Due.values("freed ones", Due.ran(0, "x i i (: c (n x) (: u (d c) (, c c)))", 5), 3, 0, 2, 0);
        Due.values("what is not in it", Due.ran(0, "x i i (: c (n x) (: y (, c c) 6))", 5), 1, 6, 0, 1);
    }

    private static void countsGoRound() {
        String eight = "(: y (, z z) (: y (, y y) (, y y)))";
        for (int k = 0; k <= 8; k++) {
            // The number of leaves is 8 * 16^k: 2^31 for k = 7, which is the least int, and 2^35 for k = 8.
            int leaves = (int) (8L << 4 * k);
            LinearCells x = Due.with(DOUBLING, "x i i (: z 6 (@ 0 (, x " + eight + ")))",
                "x i i (: z (n 6) (@ 0 (, x " + eight + ")))", "x i i (, (@ 1 x) (, 9 (n 1)))");
            Due.is("run(1, " + k + ")", 0, Due.run(x, 1, k));
            Due.values("numbers, " + k, x, 3, 6, 0, leaves);
            Due.is("run(2, " + k + ")", 0, Due.run(x, 2, k));
            Due.values("cells, " + k, x, 3, 0, leaves, 0);
            Due.is("run(3, " + k + ")", 0, Due.run(x, 3, k));
            Due.values("one more of each, " + k, x, 3, 6, 1, leaves + 1);
        }
        // A number that is there is found, though the count of numbers has gone round to 0.
        LinearCells x = Due.with(DOUBLING, "x i i (, (n 4) (@ 0 (, 8 6)))");
        Due.is("run(1, 0)", 0, Due.run(x, 1, 0));
        Due.values("2^32 numbers", x, 3, 6, 1, 0);
    }

    private static void otherValue() {
        LinearCells x = new LinearCells();
        for (int round = 0; round < 2; round++) {
            for (int what : new int[] {Integer.MIN_VALUE, -1, 4, 5, 256, Integer.MAX_VALUE}) {
                Due.is("value(" + what + ")", Due.ILLEGAL_ARGUMENT, Due.value(x, what));
            }
            for (int what = 0; what <= 3; what++) {
                Due.is("value(" + what + ") throws nothing", true, Due.value(x, what) >= 0);
            }
            Due.given(x, 0, "x i i (, x (n x))");
            Due.is("run(0, 5)", 0, Due.run(x, 0, 5));
        }
    }

    private static void notFree() {
        for (int made = 0; made <= 12; made++) {
            Due.is("heap(0) with " + made, made, Due.heap(Due.ran(0, CELLS, made), 0));
        }
        Due.is("heap(0) of a full heap behind a trap", 12, Due.heap(Due.ran(2, CELLS, 13), 0));
        Due.heaps("all freed", Due.ran(0, "x i i (? x (: u (d (n x)) (@ 0 (- x 1))) 7)", 20), 0, 20, 20);
        Due.heaps("one of two freed", Due.ran(0, "x i i (: a (n 1) (: b (n 2) (d a)))", 0), 1, 2, 1);
        Due.heaps("a place taken again", Due.ran(0, "x i i (: a (n 1) (: u (d a) (n 2)))", 0), 1, 2, 1);
    }

    private static void counts() {
        Due.heaps("one expression", Due.ran(0, "x i i x", 0), 0, 0, 0, 0, 1);
        Due.heaps("p makes none", Due.ran(0, "x i i (p (n 1) 2)", 0), 1, 1, 0, 0, 4);
        Due.heaps("g makes a pair", Due.ran(0, "x i i (g (n 1))", 0), 1, 1, 0, 1, 3);
        Due.heaps("/ makes none", Due.ran(0, "x i i (/ a b (, 1 1) a)", 0), 0, 0, 0, 1, 5);
        // What a trap keeps from being made or freed does not count.
        Due.heaps("n", Due.ran(4, "x i i (n (, 1 1))", 0), 0, 0, 0, 1, 4);
        Due.heaps("d", Due.ran(1, "x i i (: c (n 1) (: u (d c) (d c)))", 0), 0, 1, 1, 0, 8);
        Due.heaps("g", Due.ran(1, "x i i (: c (n 1) (: u (d c) (g c)))", 0), 0, 1, 1, 0, 8);
        Due.heaps("n without a place", Due.ran(2, "x i i (: c (n x) (@ 0 x))", 0), 12, 12, 0, 0, 12 * 5 + 3);
        // The one that is too many is not begun, nor is the body that is too deep.
        Due.heaps("too deep", Due.ran(3, "x i i (@ 0 x)", 0), 0, 0, 0, 0, 48);
    }

    private static void noHeap() {
        Due.heaps("no run", new LinearCells(), 0, 0, 0, 0, 0);
        LinearCells x = Due.with("x i i (, (n x) (d (n x)))");
        Due.heaps("still no run", x, 0, 0, 0, 0, 0);
        Due.is("run(1, 0)", Due.ILLEGAL_STATE, Due.run(x, 1, 0));
        Due.heaps("behind a run that threw", x, 0, 0, 0, 0, 0);
        Due.is("run(0, 0)", 0, Due.run(x, 0, 0));
        Due.heaps("behind a run", x, 1, 2, 1, 1, 6);
    }

    private static void otherHeap() {
        LinearCells x = new LinearCells();
        for (int round = 0; round < 2; round++) {
            for (int what : new int[] {Integer.MIN_VALUE, -1, 5, 6, 256, Integer.MAX_VALUE}) {
                Due.is("heap(" + what + ")", Due.ILLEGAL_ARGUMENT, Due.heap(x, what));
            }
            for (int what = 0; what <= 4; what++) {
                Due.is("heap(" + what + ") throws nothing", true, Due.heap(x, what) >= 0);
            }
            Due.given(x, 0, "x i i (, x (n x))");
            Due.is("run(0, 5)", 0, Due.run(x, 0, 5));
        }
    }

    private static void numberInCell() {
        for (int n : new int[] {Integer.MIN_VALUE, -1, 0, 1, Integer.MAX_VALUE}) {
            Due.cells("made with " + n, Due.ran(0, "x i i (n x)", n), n);
            Due.cells("written with " + n, Due.ran(0, "x i i (p (n 7) x)", n), n);
            Due.cells("written twice", Due.ran(0, "x i i (p (p (n 7) 8) x)", n), n);
            Due.cells("in the other place", Due.ran(0, "x i i (, (n 7) (p (n 8) x))", n), 7, n);
            Due.cells("taken again", Due.ran(0, "x i i (: c (n 7) (: u (d c) (n x)))", n), n);
            Due.cells("read", Due.ran(0, "x i i (g (n x))", n), n);
        }
        Due.cells("all twelve", Due.ran(0, CELLS, 12), 12, 11, 10, 9, 8, 7, 6, 5, 4, 3, 2, 1);
    }

    private static void noPlace() {
        LinearCells x = Due.ran(0, CELLS, 12);
        for (int place : new int[] {Integer.MIN_VALUE, -12, -1, 12, 13, 16, 256, Integer.MAX_VALUE}) {
            Due.is("cell(" + place + ") of a full heap", Due.OUT_OF_BOUNDS, Due.cell(x, place));
            Due.is("cell(" + place + ") without a run", Due.OUT_OF_BOUNDS, Due.cell(new LinearCells(), place));
        }
        Due.is("cell(0)", 12, Due.cell(x, 0));
        Due.is("cell(11)", 1, Due.cell(x, 11));
    }

    private static void freePlace() {
        Due.cells("no run", new LinearCells());
        for (int made = 0; made <= 12; made++) {
            LinearCells x = Due.ran(0, CELLS, made);
            for (int place = 0; place < 12; place++) {
                Due.is("cell(" + place + ") of " + made, place < made ? made - place : Due.OUT_OF_BOUNDS,
                    Due.cell(x, place));
            }
        }
        Due.cells("freed", Due.ran(0, "x i i (d (n x))", 5));
        Due.cells("one of two freed", Due.ran(0, "x i i (: a (n 1) (: b (n 2) (d a)))", 5), Due.OUT_OF_BOUNDS, 2);
    }

    private static void latestRun() {
        LinearCells x = Due.with("x i i (, x (n x))", "x i i (d x)", "x i i 4");
        Due.is("run(0, 5)", 0, Due.run(x, 0, 5));
        Due.given(x, 0, "x i i 3");
        Due.is("run(3, 0)", Due.ILLEGAL_STATE, Due.run(x, 3, 0));
        Due.is("y", Due.UNSUPPORTED, Due.defined(x, 0, "x i i y"));
        Due.is("sound(1)", false, x.sound(1));
        Due.is("typed(1)", 0, Due.typed(x, 1));
        for (int i = 0; i < 2; i++) {
            Due.values("run(0, 5)", x, 3, 5, 1, 1);
            Due.heaps("run(0, 5)", x, 1, 1, 0, 1, 4);
            Due.cells("run(0, 5)", x, 5);
        }
        Due.is("run(1, 5)", 4, Due.run(x, 1, 5));
        Due.values("a trapped run is the latest one", x, 0, 0, 0, 0);
        Due.heaps("a trapped run is the latest one", x, 0, 0, 0, 0, 2);
        Due.cells("a trapped run is the latest one", x);
        Due.is("run(2, 5)", 0, Due.run(x, 2, 5));
        Due.values("run(2, 5)", x, 1, 4, 0, 1);
        Due.heaps("run(2, 5)", x, 0, 0, 0, 0, 1);
    }
}
