/** Promise 2: draft() puts up to eight characters behind the draft, or refuses them all. */
public final class Promise2DraftTest {
    private static final String TEXT = "x i i (+ x 1234)";

    public static void main(String[] args) {
        lowestByteFirst();
        upToTheFirstZero();
        refusesNone();
        refusesOtherCharacters();
        refusesMoreThan120();
        takesSmallPieces();
        Due.end();
    }

    private static void lowestByteFirst() {
        LinearCells x = new LinearCells();
        // "x i i 7" by hand: 78 20 69 20 69 20 37.
        Due.is("draft", true, x.draft(0x37206920692078L));
        Due.is("define", 1, Due.defined(x, 0));
        Due.is("run", 0, Due.run(x, 0, 0));
        Due.is("value(1)", 7, Due.value(x, 1));
    }

    private static void upToTheFirstZero() {
        LinearCells x = new LinearCells();
        Due.is("behind a zero byte nothing counts", true, x.draft(0xFF01780020692078L));
        Due.is("draft", true, x.draft(0x01FF7FFF00782069L));
        Due.is("define of 'x i ' and 'i x'", 1, Due.defined(x, 0));
    }

    private static void refusesNone() {
        LinearCells x = new LinearCells();
        Due.is("draft(0)", false, x.draft(0));
        Due.is("draft of a text behind a zero byte", false, x.draft(0x7820692069207800L));
        Due.is("draft(Long.MIN_VALUE)", false, x.draft(Long.MIN_VALUE));
        Due.is("define", Due.ILLEGAL_ARGUMENT, Due.defined(x, 0));
    }

    private static void refusesOtherCharacters() {
        for (int character = 1; character < 256; character++) {
            boolean good = character >= 32 && character <= 126;
            LinearCells x = new LinearCells();
            Due.draft(x, "x i i ");
            for (int i = 0; i < 8; i++) {
                long s = 0x2020202020202020L & ~(255L << 8 * i) | (long) character << 8 * i;
                Due.is("character " + character + " as byte " + i, good, new LinearCells().draft(s));
                if (!good) {
                    Due.is("character " + character + " as byte " + i, false, x.draft(s));
                }
            }
            Due.draft(x, "x");
            Due.is("define of what was not refused", 1, Due.defined(x, 0));
        }
    }

    private static void refusesMoreThan120() {
        LinearCells x = new LinearCells();
        Due.draft(x, TEXT + Due.times(103, " "));
        Due.is("two characters behind 119", false, x.draft(0x2020));
        Due.is("eight characters behind 119", false, x.draft(0x2020202020202020L));
        Due.is("one character behind 119", true, x.draft(' '));
        Due.is("one character behind 120", false, x.draft('x'));
        Due.is("define of 120 characters", 3, Due.defined(x, 0));
        Due.draft(x, Due.times(120, "x"));
        Due.is("one character behind 120", false, x.draft('x'));
    }

    private static void takesSmallPieces() {
        LinearCells x = new LinearCells();
        for (int i = 0; i < TEXT.length(); i++) {
            Due.is("draft of one character", true, x.draft(TEXT.charAt(i)));
        }
        Due.is("define", 3, Due.defined(x, 0));
        Due.is("run", 0, Due.run(x, 0, 1));
        Due.is("a number over two drafts is one", 1235, Due.value(x, 1));
    }
}
