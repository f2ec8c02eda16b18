import java.util.ArrayList;
import java.util.List;
import java.util.Random;

/** Makes texts of procedures from a seed: most of them well typed, some linear, some spoiled. */
final class TextMaker {
    private record Name(char letter, String type) {
    }

    private static final String LETTERS = "abcxyzngpdir";

    private final Random random;
    private final String[] takes = new String[4];
    private final String[] gives = new String[4];

    TextMaker(long seed) {
        random = new Random(seed);
        for (int k = 0; k < 4; k++) {
            takes[k] = chance(60) ? "i" : type(0);
            gives[k] = chance(40) ? "i" : type(0);
        }
    }

    private boolean chance(int percent) {
        return random.nextInt(100) < percent;
    }

    private String type(int depth) {
        if (depth < 3 && chance(40)) {
            return "(" + type(depth + 1) + blank() + type(depth + 1) + ")";
        }
        return chance(60) ? "i" : "r";
    }

    private String blank() {
        return chance(90) ? "" : "  ".substring(random.nextInt(2));
    }

    private char letter() {
        return LETTERS.charAt(random.nextInt(LETTERS.length()));
    }

    /** A text for procedure k, as a rule with the types that calls in other texts expect. */
    String text(int k) {
        String want = chance(95) ? gives[k] : type(0);
        String takesNow = chance(95) ? takes[k] : type(0);
        List<Name> names = new ArrayList<>();
        char variable = letter();
        names.add(new Name(variable, takesNow));
        String body = expression(want.replace(" ", ""), names, 0);
        String text = variable + blank() + takesNow + blank() + want + blank()
            + consumed(body, new Name(variable, takesNow), names);
        return chance(8) ? spoiled(text) : text;
    }

    private String spoiled(String text) {
        String signs = "()abxyngpdir+-*<?:,/@0123456789 >Z";
        int at = random.nextInt(text.length());
        int what = random.nextInt(3);
        String sign = what == 0 ? "" : "" + signs.charAt(random.nextInt(signs.length()));
        return text.substring(0, at) + sign + text.substring(what == 2 ? at : at + 1);
    }

    private String expression(String type, List<Name> names, int depth) {
        if (chance(3)) {
            return expression(type(0).replace(" ", ""), names, depth + 1);
        }
        boolean small = depth > 3 + random.nextInt(4);
        if (small || chance(30)) {
            String found = variable(type, names);
            if (found != null) {
                return found;
            }
        }
        if (!small && chance(45)) {
            return common(type, names, depth + 1);
        }
        if (type.equals("i")) {
            return number(names, depth + 1, small);
        }
        if (type.equals("r")) {
            return small || chance(60) ? "(n" + expression("i", names, depth + 1) + ")"
                : "(p" + expression("r", names, depth + 1) + blank() + expression("i", names, depth + 1) + ")";
        }
        if (type.equals("(ir)") && chance(50)) {
            return "(g" + expression("r", names, depth + 1) + ")";
        }
        return "(," + expression(part(type, 0), names, depth + 1) + " "
            + expression(part(type, 1), names, depth + 1) + ")";
    }

    private String number(List<Name> names, int depth, boolean small) {
        if (small || chance(25)) {
            return "" + (chance(80) ? random.nextInt(4) : random.nextInt(10000));
        }
        if (chance(25)) {
            return "(d" + expression("r", names, depth) + ")";
        }
        return "(" + "+-*<".charAt(random.nextInt(4)) + expression("i", names, depth) + " "
            + expression("i", names, depth) + ")";
    }

    /** Takes the nearest variable of a type, and as a rule a linear one only once. */
    private String variable(String type, List<Name> names) {
        for (int i = names.size() - 1; i >= 0; i--) {
            Name name = names.get(i);
            if (name.type.equals(type) && !isHidden(name, names, i) && chance(70)) {
                if (type.contains("r") && chance(97)) {
                    names.set(i, new Name(name.letter, "used"));
                }
                return "" + name.letter;
            }
        }
        return null;
    }

    private static boolean isHidden(Name name, List<Name> names, int at) {
        for (int i = at + 1; i < names.size(); i++) {
            if (names.get(i).letter == name.letter) {
                return true;
            }
        }
        return false;
    }

    private String common(String type, List<Name> names, int depth) {
        int what = random.nextInt(4);
        if (what == 0) {
            String c = expression("i", names, depth);
            List<Name> others = new ArrayList<>(names);
            String e = expression(type, names, depth);
            String f = expression(type, others, depth);
            return "(?" + c + " " + e + " " + f + ")";
        }
        if (what == 1) {
            String bound = chance(50) ? "r" : type(1).replace(" ", "");
            String e = expression(bound, names, depth);
            return "(:" + binding(type, names, depth, e, List.of(new Name(letter(), bound))) + ")";
        }
        if (what == 2) {
            String pair = chance(50) ? "(ir)" : "(" + type(2) + type(2) + ")";
            pair = pair.replace(" ", "");
            String e = expression(pair, names, depth);
            char first = letter();
            char second = chance(1) ? first : first == 'a' ? 'b' : 'a';
            return "(/" + binding(type, names, depth, e,
                List.of(new Name(first, part(pair, 0)), new Name(second, part(pair, 1)))) + ")";
        }
        for (int k = 0; k < 4; k++) {
            if (gives[k].replace(" ", "").equals(type) && chance(60)) {
                return "(@" + k + " " + expression(takes[k].replace(" ", ""), names, depth) + ")";
            }
        }
        return expression(type, names, depth);
    }

    private String binding(String type, List<Name> names, int depth, String e, List<Name> bound) {
        int outer = names.size();
        names.addAll(bound);
        String f = expression(type, names, depth);
        for (Name name : bound) {
            f = consumed(f, name, names);
        }
        while (names.size() > outer) {
            names.remove(outer);
        }
        String letters = "";
        for (Name name : bound) {
            letters += name.letter + blank();
        }
        return letters + e + " " + f;
    }

    /** Frees a cell that is not used yet, so that more texts are linear. */
    private String consumed(String f, Name name, List<Name> names) {
        boolean unused = names.contains(name);
        if (unused && name.type.equals("r") && chance(90)) {
            return "(:z(d" + name.letter + ")" + f + ")";
        }
        return f;
    }

    private static String part(String pair, int which) {
        int depth = 0;
        for (int i = 1; i < pair.length(); i++) {
            depth += pair.charAt(i) == '(' ? 1 : pair.charAt(i) == ')' ? -1 : 0;
            if (depth == 0) {
                return which == 0 ? pair.substring(1, i + 1) : pair.substring(i + 1, pair.length() - 1);
            }
        }
        throw new IllegalStateException(pair);
    }
}
