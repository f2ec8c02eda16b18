import java.util.Random;

/** All promises together: runs of calls from seeds, answered by the program and by the Model. */
public final class ModelTest {
    private static final int OBJECTS = 8000;
    // As many as keep an object under its 512 calls.
    private static final int TEXTS_AN_OBJECT = 5;
    private static final int[] NUMBERS = {0, 1, 2, 3, 5, 12, 13, 23, 24, -1, Integer.MAX_VALUE, Integer.MIN_VALUE};

    // How often something came about that the test is for; each must be met often.
    private static int defined = 0;
    private static int refused = 0;
    private static int unbound = 0;
    private static int sound = 0;
    private static int soundWithCells = 0;
    private static int untyped = 0;
    private static final int[] traps = new int[5];

    public static void main(String[] args) {
        for (int seed = 0; seed < OBJECTS; seed++) {
            compare(seed);
        }
        System.out.println("defined " + defined + ", refused " + refused + ", unbound " + unbound
            + ", sound " + sound + ", sound with cells " + soundWithCells + ", untyped " + untyped
            + ", runs by trap " + java.util.Arrays.toString(traps));
        for (int often : new int[] {defined, refused, unbound, sound, soundWithCells, untyped,
            traps[0], traps[1], traps[2], traps[3], traps[4]}) {
            Due.is("the texts are of all kinds", true, often >= 50);
        }
        Due.end();
    }

    private static void compare(int seed) {
        LinearCells x = new LinearCells();
        Model model = new Model();
        TextMaker maker = new TextMaker(seed);
        Random random = new Random(seed);
        for (int i = 0; i < TEXTS_AN_OBJECT; i++) {
            int k = i < 4 ? i : random.nextInt(4);
            String text = maker.text(k);
            for (int tries = 0; text.length() > 120 && tries < 20; tries++) {
                text = maker.text(k);
            }
            define(x, model, k, text);
            for (int other = 0; other < 4; other++) {
                look(x, model, other, "seed " + seed + ", behind '" + text + "' as " + k);
            }
            run(x, model, random.nextInt(4), NUMBERS[random.nextInt(NUMBERS.length)], "seed " + seed);
            run(x, model, k, random.nextInt(30) - 3, "seed " + seed + ", '" + text + "'");
        }
    }

    private static void define(LinearCells x, Model model, int k, String text) {
        for (int from = 0; from < text.length(); from += 8) {
            long s = Due.word(text, from);
            Due.is("draft of '" + text + "'", model.draft(s), x.draft(s));
        }
        int answer = model.define(k);
        Due.is("define of '" + text + "'", answer, Due.defined(x, k));
        defined += answer > 0 ? 1 : 0;
        refused += answer == Due.ILLEGAL_ARGUMENT ? 1 : 0;
        unbound += answer == Due.UNSUPPORTED ? 1 : 0;
    }

    private static void look(LinearCells x, Model model, int k, String when) {
        int typed = model.typed(k);
        boolean isSound = model.sound(k);
        Due.is(when + ": typed(" + k + ")", typed, Due.typed(x, k));
        Due.is(when + ": sound(" + k + ")", isSound, x.sound(k));
        untyped += typed == 0 ? 1 : 0;
        sound += isSound ? 1 : 0;
    }

    private static void run(LinearCells x, Model model, int k, int n, String when) {
        int trap = model.run(k, n);
        String call = when + ": run(" + k + ", " + n + ")";
        Due.is(call, trap, Due.run(x, k, n));
        for (int what = -1; what <= 5; what++) {
            Due.is(call + ", value(" + what + ")", model.value(what), Due.value(x, what));
            Due.is(call + ", heap(" + what + ")", model.heap(what), Due.heap(x, what));
        }
        for (int place = -1; place <= 12; place++) {
            Due.is(call + ", cell(" + place + ")", model.cell(place), Due.cell(x, place));
        }
        if (trap >= 0) {
            traps[trap]++;
        }
        if (trap >= 0 && model.sound(k) && model.takesNumber(k)) {
            soundWithCells += model.heap(1) > 0 ? 1 : 0;
            Due.is(call + ", sound, traps by misuse", false, trap == 1 || trap == 4);
            if (trap == 0) {
                Due.is(call + ", sound, cells left", Due.value(x, 2), Due.heap(x, 0));
            }
        }
    }
}
