/** What the tests share: comparing answers with what is due, and putting texts into drafts. */
final class Due {
    static final int ILLEGAL_ARGUMENT = -1001;
    static final int UNSUPPORTED = -1002;
    static final int ILLEGAL_STATE = -1003;
    static final int OUT_OF_BOUNDS = -1004;

    private static int wrong = 0;

    private Due() {
    }

    static void is(String call, long want, long got) {
        if (got != want) {
            wrong++;
            System.out.println(call + " answered " + got + ", due is " + want);
        }
    }

    static void is(String call, boolean want, boolean got) {
        is(call, want ? 1 : 0, got ? 1 : 0);
    }

    /** Ends the test: with exit code 1 if an answer was not the one that is due. */
    static void end() {
        if (wrong != 0) {
            System.out.println(wrong + " answers are not as due");
            System.exit(1);
        }
    }

    /** The up to eight characters from a place of a text on, as draft() takes them. */
    static long word(String text, int from) {
        long word = 0;
        for (int i = Math.min(text.length(), from + 8) - 1; i >= from; i--) {
            word = word << 8 | text.charAt(i);
        }
        return word;
    }

    static void draft(LinearCells x, String text) {
        for (int from = 0; from < text.length(); from += 8) {
            is("draft of '" + text + "' from " + from, true, x.draft(word(text, from)));
        }
    }

    /** What define(k) answers, or which exception it throws. */
    static int defined(LinearCells x, int k) {
        try {
            return x.define(k);
        } catch (IllegalArgumentException e) {
            return ILLEGAL_ARGUMENT;
        } catch (UnsupportedOperationException e) {
            return UNSUPPORTED;
        }
    }

    static int defined(LinearCells x, int k, String text) {
        draft(x, text);
        return defined(x, k);
    }

    /** Defines a procedure that the test needs. */
    static void given(LinearCells x, int k, String text) {
        int answer = defined(x, k, text);
        is("define of '" + text + "' is refused", true, answer > 0);
    }

    static LinearCells with(String... texts) {
        LinearCells x = new LinearCells();
        for (int k = 0; k < texts.length; k++) {
            if (!texts[k].isEmpty()) {
                given(x, k, texts[k]);
            }
        }
        return x;
    }

    static int typed(LinearCells x, int k) {
        try {
            return x.typed(k);
        } catch (IllegalStateException e) {
            return ILLEGAL_STATE;
        }
    }

    static int run(LinearCells x, int k, int n) {
        try {
            return x.run(k, n);
        } catch (IllegalStateException e) {
            return ILLEGAL_STATE;
        }
    }

    static int value(LinearCells x, int what) {
        try {
            return x.value(what);
        } catch (IllegalArgumentException e) {
            return ILLEGAL_ARGUMENT;
        }
    }

    static int heap(LinearCells x, int what) {
        try {
            return x.heap(what);
        } catch (IllegalArgumentException e) {
            return ILLEGAL_ARGUMENT;
        }
    }

    static int cell(LinearCells x, int place) {
        try {
            return x.cell(place);
        } catch (IndexOutOfBoundsException e) {
            return OUT_OF_BOUNDS;
        }
    }

    static void values(String call, LinearCells x, int... want) {
        for (int what = 0; what < want.length; what++) {
            is(call + ": value(" + what + ")", want[what], value(x, what));
        }
    }

    static void heaps(String call, LinearCells x, int... want) {
        for (int what = 0; what < want.length; what++) {
            is(call + ": heap(" + what + ")", want[what], heap(x, what));
        }
    }

    /** A text n times. */
    static String times(int n, String text) {
        return text.repeat(n);
    }
}
