import java.util.ArrayList;
import java.util.List;

/** What the tests share: comparing answers with what is due, and putting texts into drafts. */
final class Due {
    static final int ILLEGAL_ARGUMENT = -1001;
    static final int UNSUPPORTED = -1002;
    static final int ILLEGAL_STATE = -1003;
    static final int OUT_OF_BOUNDS = -1004;
    private static final int ANOTHER_EXCEPTION = -1005;

    private static int wrong = 0;
    private static String sentence = "";

    private Due() {
    }

    /** The test of one sentence of the document; what is wrong in it is told with its words. */
    static void sentence(String words, Runnable test) {
        sentence = "[" + words + "] ";
        test.run();
        sentence = "";
    }

    static void is(String call, long want, long got) {
        if (got != want) {
            wrong++;
            System.out.println(sentence + call + " answered " + got + ", due is " + want);
        }
    }

    static void is(String call, boolean want, boolean got) {
        is(call, want ? 1 : 0, got ? 1 : 0);
    }

    /** Ends the test: with exit code 1 if an answer was not the one that is due. */
    static void end() {
        if (wrong != 0) {
            System.out.println(wrong + " answers are not as due");
            System.exit(1);
        }
    }

    /** The up to eight characters from a place of a text on, as draft() takes them. */
    static long word(String text, int from) {
        long word = 0;
        for (int i = Math.min(text.length(), from + 8) - 1; i >= from; i--) {
            word = word << 8 | text.charAt(i);
        }
        return word;
    }

    static void draft(LinearCells x, String text) {
        for (int from = 0; from < text.length(); from += 8) {
            is("draft of '" + text + "' from " + from, true, x.draft(word(text, from)));
        }
    }

    /** A call of the face; what it throws must be just the document's, and of no class below it. */
    private interface Call {
        int answer();
    }

    private static int answerOf(Call call) {
        try {
            return call.answer();
        } catch (RuntimeException e) {
            return numberOf(e.getClass());
        }
    }

    private static int numberOf(Class<?> exception) {
        if (exception == IllegalArgumentException.class) {
            return ILLEGAL_ARGUMENT;
        }
        if (exception == UnsupportedOperationException.class) {
            return UNSUPPORTED;
        }
        if (exception == IllegalStateException.class) {
            return ILLEGAL_STATE;
        }
        return exception == IndexOutOfBoundsException.class ? OUT_OF_BOUNDS : ANOTHER_EXCEPTION;
    }

    /** What define(k) answers, or which exception it throws. */
    static int defined(LinearCells x, int k) {
        return answerOf(() -> x.define(k));
    }

    static int defined(LinearCells x, int k, String text) {
        draft(x, text);
        return defined(x, k);
    }

    /** Defines a procedure that the test needs. */
    static void given(LinearCells x, int k, String text) {
        int answer = defined(x, k, text);
        is("define of '" + text + "' is refused", true, answer > 0);
    }

    static LinearCells with(String... texts) {
        LinearCells x = new LinearCells();
        for (int k = 0; k < texts.length; k++) {
            if (!texts[k].isEmpty()) {
                given(x, k, texts[k]);
            }
        }
        return x;
    }

    static void takes(int expressions, String text) {
        is("define of '" + text + "'", expressions, defined(new LinearCells(), 0, text));
    }

    static void refuses(String text) {
        is("define of '" + text + "'", ILLEGAL_ARGUMENT, defined(new LinearCells(), 0, text));
    }

    /** A variable of the text stands for nothing. */
    static void misses(String text) {
        is("define of '" + text + "'", UNSUPPORTED, defined(new LinearCells(), 0, text));
    }

    static void isSound(boolean want, String text) {
        is("sound of '" + text + "'", want, with(text).sound(0));
    }

    static void isTyped(int want, String text) {
        is("typed of '" + text + "'", want, typed(with(text), 0));
    }

    /** The object with the text as procedure 0, behind the run that is due. */
    static LinearCells ran(int trap, String text, int n) {
        LinearCells x = with(text);
        is("run of '" + text + "' with " + n, trap, run(x, 0, n));
        return x;
    }

    static void comesTo(int number, String text, int n) {
        LinearCells x = ran(0, text, n);
        is("value(0) of '" + text + "' with " + n, 1, value(x, 0));
        is("value(1) of '" + text + "' with " + n, number, value(x, 1));
    }

    static int typed(LinearCells x, int k) {
        return answerOf(() -> x.typed(k));
    }

    static int run(LinearCells x, int k, int n) {
        return answerOf(() -> x.run(k, n));
    }

    static int value(LinearCells x, int what) {
        return answerOf(() -> x.value(what));
    }

    static int heap(LinearCells x, int what) {
        return answerOf(() -> x.heap(what));
    }

    static int cell(LinearCells x, int place) {
        return answerOf(() -> x.cell(place));
    }

    static void values(String call, LinearCells x, int... want) {
        for (int what = 0; what < want.length; what++) {
            is(call + ": value(" + what + ")", want[what], value(x, what));
        }
    }

    static void heaps(String call, LinearCells x, int... want) {
        for (int what = 0; what < want.length; what++) {
            is(call + ": heap(" + what + ")", want[what], heap(x, what));
        }
    }

    /** The cells from place 0 on; any other place is free. */
    static void cells(String call, LinearCells x, int... want) {
        for (int place = 0; place < 12; place++) {
            int due = place < want.length ? want[place] : OUT_OF_BOUNDS;
            is(call + ": cell(" + place + ")", due, cell(x, place));
        }
    }

    /** All that can be asked of an object without a change in it. */
    static List<Integer> answers(LinearCells x) {
        List<Integer> answers = new ArrayList<>();
        for (int k = 0; k < 4; k++) {
            answers.add(x.sound(k) ? 1 : 0);
            answers.add(typed(x, k));
            answers.add(value(x, k));
        }
        for (int what = 0; what < 5; what++) {
            answers.add(heap(x, what));
        }
        for (int place = 0; place < 12; place++) {
            answers.add(cell(x, place));
        }
        return answers;
    }

    /** The sum of some expressions, in which none lies deeper than it must. */
    static String sum(List<String> terms) {
        if (terms.size() == 1) {
            return terms.get(0);
        }
        int half = terms.size() / 2;
        return "(+" + sum(terms.subList(0, half)) + sum(terms.subList(half, terms.size())) + ")";
    }

    /** A text n times. */
    static String times(int n, String text) {
        return text.repeat(n);
    }
}
