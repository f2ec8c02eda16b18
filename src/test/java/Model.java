import java.math.BigInteger;
import java.util.ArrayList;
import java.util.HashMap;
import java.util.HashSet;
import java.util.List;
import java.util.Map;
import java.util.Set;

/**
 * The document once more, written plainly with lists, maps and recursion and nothing in common
 * with the program: ModelTest compares the two. Types are texts such as "(i(rr))".
 */
final class Model {
    private static final class NoText extends Exception {
        private static final long serialVersionUID = 1;
    }

    private static final class Trap extends Exception {
        private static final long serialVersionUID = 1;
        final int by;

        Trap(int by) {
            this.by = by;
        }
    }

    private static final class Fault extends Exception {
        private static final long serialVersionUID = 1;
    }

    private record Expression(String kind, int number, List<String> names, List<Expression> parts) {
        int count() {
            int count = 1;
            for (Expression part : parts) {
                count += part.count();
            }
            return count;
        }

        Expression part(int i) {
            return parts.get(i);
        }
    }

    private record Procedure(String variable, String takes, String gives, Expression body) {
    }

    private record Cell(int place) {
    }

    private record Pair(Object first, Object second, BigInteger cells, BigInteger numbers) {
    }

    private final Procedure[] procedures = new Procedure[4];
    private String draft = "";
    private Integer[] places = new Integer[12];
    private final int[] counts = new int[5];
    private Object result = null;

    boolean draft(long s) {
        String more = "";
        for (int i = 0; i < 8 && (s >>> 8 * i & 255) != 0; i++) {
            more += (char) (s >>> 8 * i & 255);
        }
        boolean good = !more.isEmpty() && more.chars().allMatch(c -> c >= 32 && c <= 126);
        if (good && (draft + more).length() <= 120) {
            draft += more;
            return true;
        }
        return false;
    }

    int define(int k) {
        String text = draft;
        draft = "";
        if (k < 0 || k > 3) {
            return Due.ILLEGAL_ARGUMENT;
        }
        try {
            Procedure read = new Parser(text).procedure();
            if (!isBound(read.body, Set.of(read.variable))) {
                return Due.UNSUPPORTED;
            }
            procedures[k] = read;
            return read.body.count();
        } catch (NoText e) {
            return Due.ILLEGAL_ARGUMENT;
        }
    }

    private static final class Parser {
        private final List<String> signs = new ArrayList<>();

        Parser(String text) throws NoText {
            for (int i = 0; i < text.length(); i++) {
                char c = text.charAt(i);
                if (Character.isDigit(c) && i > 0 && Character.isDigit(text.charAt(i - 1))) {
                    signs.set(signs.size() - 1, signs.get(signs.size() - 1) + c);
                } else if (c != ' ') {
                    signs.add("" + c);
                }
            }
            for (String sign : signs) {
                if (!sign.matches("[-()a-z+*<?:,/@]|[0-9]{1,4}")) {
                    throw new NoText();
                }
            }
        }

        private static void must(boolean holds) throws NoText {
            if (!holds) {
                throw new NoText();
            }
        }

        private String next() throws NoText {
            must(!signs.isEmpty());
            return signs.remove(0);
        }

        private String letter() throws NoText {
            String sign = next();
            must(sign.matches("[a-z]"));
            return sign;
        }

        Procedure procedure() throws NoText {
            Procedure read = new Procedure(letter(), type(0), type(0), expression(0));
            must(signs.isEmpty());
            return read;
        }

        private String type(int depth) throws NoText {
            must(depth <= 4);
            String sign = next();
            if (sign.equals("(")) {
                String pair = "(" + type(depth + 1) + type(depth + 1) + ")";
                must(next().equals(")"));
                return pair;
            }
            must(sign.matches("[ir]"));
            return sign;
        }

        private Expression expression(int depth) throws NoText {
            must(depth <= 16);
            String sign = next();
            if (sign.matches("[0-9]+")) {
                return new Expression("number", Integer.parseInt(sign), List.of(), List.of());
            }
            if (sign.matches("[a-z]")) {
                return new Expression("variable", 0, List.of(sign), List.of());
            }
            must(sign.equals("("));
            String kind = next();
            must(kind.matches("[-+*<?:,/@ngpd]"));
            int number = 0;
            List<String> names = new ArrayList<>();
            if (kind.equals("@")) {
                String k = next();
                must(k.matches("[0-9]+") && Integer.parseInt(k) <= 3);
                number = Integer.parseInt(k);
            }
            for (int i = 0; i < (kind.equals(":") ? 1 : kind.equals("/") ? 2 : 0); i++) {
                names.add(letter());
            }
            must(new HashSet<>(names).size() == names.size());
            List<Expression> parts = new ArrayList<>();
            for (int i = 0; i < (kind.equals("?") ? 3 : kind.matches("[ngd@]") ? 1 : 2); i++) {
                parts.add(expression(depth + 1));
            }
            must(next().equals(")"));
            return new Expression(kind, number, names, parts);
        }
    }

    private static boolean isBound(Expression e, Set<String> names) {
        if (e.kind.equals("variable")) {
            return names.contains(e.names.get(0));
        }
        for (int i = 0; i < e.parts.size(); i++) {
            Set<String> within = new HashSet<>(names);
            if (i == 1) {
                within.addAll(e.names);
            }
            if (!isBound(e.part(i), within)) {
                return false;
            }
        }
        return true;
    }

    private boolean isThere(int k) {
        return k >= 0 && k <= 3 && procedures[k] != null;
    }

    boolean takesNumber(int k) {
        return isThere(k) && procedures[k].takes.equals("i");
    }

    int typed(int k) {
        if (!isThere(k)) {
            return Due.ILLEGAL_STATE;
        }
        try {
            return number(bodyType(k));
        } catch (Fault e) {
            return 0;
        }
    }

    private String bodyType(int k) throws Fault {
        return type(procedures[k].body, Map.of(procedures[k].variable, procedures[k].takes));
    }

    private static int number(String type) {
        if (type.length() == 1) {
            return type.equals("i") ? 1 : 2;
        }
        return 8 * number(part(type, 0)) + number(part(type, 1)) + 3;
    }

    private static String part(String pair, int which) {
        int depth = 0;
        for (int i = 1; i < pair.length(); i++) {
            depth += pair.charAt(i) == '(' ? 1 : pair.charAt(i) == ')' ? -1 : 0;
            if (depth == 0) {
                return which == 0 ? pair.substring(1, i + 1) : pair.substring(i + 1, pair.length() - 1);
            }
        }
        throw new IllegalStateException(pair);
    }

    private static void must(boolean holds) throws Fault {
        if (!holds) {
            throw new Fault();
        }
    }

    private static Map<String, String> bindTypes(Map<String, String> types, Expression e, String type)
            throws Fault {
        Map<String, String> within = new HashMap<>(types);
        if (e.kind.equals(":")) {
            within.put(e.names.get(0), type);
        } else {
            must(type.length() > 1);
            within.put(e.names.get(0), part(type, 0));
            within.put(e.names.get(1), part(type, 1));
        }
        return within;
    }

    private String type(Expression e, Map<String, String> types) throws Fault {
        switch (e.kind) {
            case "number":
                return "i";
            case "variable":
                return types.get(e.names.get(0));
            case ":":
            case "/":
                return type(e.part(1), bindTypes(types, e, type(e.part(0), types)));
            default:
                break;
        }
        List<String> parts = new ArrayList<>();
        for (Expression part : e.parts) {
            parts.add(type(part, types));
        }
        switch (e.kind) {
            case "?":
                must(parts.get(0).equals("i") && parts.get(1).equals(parts.get(2)));
                return parts.get(1);
            case ",":
                return "(" + parts.get(0) + parts.get(1) + ")";
            case "n":
                must(parts.get(0).equals("i"));
                return "r";
            case "g":
                must(parts.get(0).equals("r"));
                return "(ir)";
            case "p":
                must(parts.get(0).equals("r") && parts.get(1).equals("i"));
                return "r";
            case "d":
                must(parts.get(0).equals("r"));
                return "i";
            case "@":
                must(isThere(e.number) && procedures[e.number].takes.equals(parts.get(0)));
                return procedures[e.number].gives;
            default:
                must(parts.get(0).equals("i") && parts.get(1).equals("i"));
                return "i";
        }
    }

    boolean sound(int k) {
        return isThere(k) && areSound(k, new HashSet<>());
    }

    private boolean areSound(int k, Set<Integer> seen) {
        if (!seen.add(k)) {
            return true;
        }
        if (!isThere(k)) {
            return false;
        }
        Procedure p = procedures[k];
        try {
            must(bodyType(k).equals(p.gives));
            mustUseOnce(p.variable, p.takes, p.body);
            mustUseWell(p.body, Map.of(p.variable, p.takes));
        } catch (Fault e) {
            return false;
        }
        Set<Integer> callees = new HashSet<>();
        addCallees(p.body, callees);
        for (int callee : callees) {
            if (!areSound(callee, seen)) {
                return false;
            }
        }
        return true;
    }

    private static void addCallees(Expression e, Set<Integer> callees) {
        if (e.kind.equals("@")) {
            callees.add(e.number);
        }
        for (Expression part : e.parts) {
            addCallees(part, callees);
        }
    }

    private void mustUseWell(Expression e, Map<String, String> types) throws Fault {
        for (int i = 0; i < e.parts.size(); i++) {
            Map<String, String> within = types;
            if (i == 1 && !e.names.isEmpty()) {
                within = bindTypes(types, e, type(e.part(0), types));
                for (String name : e.names) {
                    mustUseOnce(name, within.get(name), e.part(1));
                }
            }
            mustUseWell(e.part(i), within);
        }
    }

    private static void mustUseOnce(String name, String type, Expression scope) throws Fault {
        if (type.contains("r")) {
            must(uses(name, scope).equals(Set.of(1)));
        }
    }

    /** How often a variable is used, on every way. */
    private static Set<Integer> uses(String name, Expression e) {
        if (e.kind.equals("variable")) {
            return Set.of(e.names.get(0).equals(name) ? 1 : 0);
        }
        if (e.kind.equals("?")) {
            Set<Integer> ways = new HashSet<>(sums(uses(name, e.part(0)), uses(name, e.part(1))));
            ways.addAll(sums(uses(name, e.part(0)), uses(name, e.part(2))));
            return ways;
        }
        Set<Integer> ways = Set.of(0);
        for (int i = 0; i < e.parts.size(); i++) {
            if (i == 0 || !e.names.contains(name)) {
                ways = sums(ways, uses(name, e.part(i)));
            }
        }
        return ways;
    }

    private static Set<Integer> sums(Set<Integer> some, Set<Integer> others) {
        Set<Integer> sums = new HashSet<>();
        for (int a : some) {
            for (int b : others) {
                sums.add(a + b);
            }
        }
        return sums;
    }

    int run(int k, int n) {
        if (!isThere(k)) {
            return Due.ILLEGAL_STATE;
        }
        places = new Integer[12];
        java.util.Arrays.fill(counts, 0);
        result = null;
        try {
            result = call(k, n, 1);
            return 0;
        } catch (Trap trap) {
            return trap.by;
        }
    }

    private Object call(int k, Object part, int depth) throws Trap {
        need(isThere(k), 4);
        need(depth <= 24, 3);
        return valueOf(procedures[k].body, Map.of(procedures[k].variable, part), depth);
    }

    private static void need(boolean holds, int trap) throws Trap {
        if (!holds) {
            throw new Trap(trap);
        }
    }

    private Object valueOf(Expression e, Map<String, Object> names, int depth) throws Trap {
        need(counts[4] < 2000, 3);
        counts[4]++;
        switch (e.kind) {
            case "number":
                return e.number;
            case "variable":
                return names.get(e.names.get(0));
            case "?": {
                Object c = valueOf(e.part(0), names, depth);
                need(c instanceof Integer, 4);
                return valueOf(e.part((Integer) c != 0 ? 1 : 2), names, depth);
            }
            case ":":
            case "/": {
                Object bound = valueOf(e.part(0), names, depth);
                Map<String, Object> within = new HashMap<>(names);
                if (e.kind.equals(":")) {
                    within.put(e.names.get(0), bound);
                } else {
                    need(bound instanceof Pair, 4);
                    within.put(e.names.get(0), ((Pair) bound).first);
                    within.put(e.names.get(1), ((Pair) bound).second);
                }
                return valueOf(e.part(1), within, depth);
            }
            default:
                break;
        }
        List<Object> parts = new ArrayList<>();
        for (Expression part : e.parts) {
            parts.add(valueOf(part, names, depth));
        }
        return e.kind.equals("@") ? call(e.number, parts.get(0), depth + 1) : work(e.kind, parts);
    }

    private Object work(String kind, List<Object> parts) throws Trap {
        Object e = parts.get(0);
        Object f = parts.size() > 1 ? parts.get(1) : null;
        if (kind.equals(",")) {
            return pair(e, f);
        }
        need("gpd".contains(kind) ? e instanceof Cell : e instanceof Integer, 4);
        need(f == null || f instanceof Integer, 4);
        if (kind.equals("n")) {
            int place = java.util.Arrays.asList(places).indexOf(null);
            need(place >= 0, 2);
            places[place] = (Integer) e;
            counts[1]++;
            return new Cell(place);
        }
        if (e instanceof Cell cell) {
            need(places[cell.place] != null, 1);
            Integer number = places[cell.place];
            if (kind.equals("g")) {
                return pair(number, e);
            }
            places[cell.place] = kind.equals("p") ? (Integer) f : null;
            counts[2] += kind.equals("d") ? 1 : 0;
            return kind.equals("p") ? e : number;
        }
        int a = (Integer) e;
        int b = (Integer) f;
        return kind.equals("+") ? a + b : kind.equals("-") ? a - b : kind.equals("*") ? a * b
            : a < b ? 1 : 0;
    }

    private Pair pair(Object e, Object f) throws Trap {
        need(counts[3] < 120, 2);
        counts[3]++;
        return new Pair(e, f, cells(e).add(cells(f)), numbers(e).add(numbers(f)));
    }

    private static BigInteger cells(Object value) {
        return value instanceof Pair p ? p.cells : value instanceof Cell ? BigInteger.ONE : BigInteger.ZERO;
    }

    private static BigInteger numbers(Object value) {
        return value instanceof Pair p ? p.numbers : value instanceof Integer ? BigInteger.ONE : BigInteger.ZERO;
    }

    int value(int what) {
        switch (what) {
            case 0:
                return result == null ? 0 : result instanceof Integer ? 1 : result instanceof Cell ? 2 : 3;
            case 1:
                return result instanceof Cell cell ? cell.place : firstNumber(result);
            case 2:
                return cells(result).intValue();
            case 3:
                return numbers(result).intValue();
            default:
                return Due.ILLEGAL_ARGUMENT;
        }
    }

    private static int firstNumber(Object value) {
        if (value instanceof Pair p) {
            return firstNumber(numbers(p.first).signum() > 0 ? p.first : p.second);
        }
        return value instanceof Integer number ? number : 0;
    }

    int heap(int what) {
        if (what < 0 || what > 4) {
            return Due.ILLEGAL_ARGUMENT;
        }
        if (what == 0) {
            int taken = 0;
            for (Integer place : places) {
                taken += place != null ? 1 : 0;
            }
            return taken;
        }
        return counts[what];
    }

    int cell(int place) {
        return place < 0 || place > 11 || places[place] == null ? Due.OUT_OF_BOUNDS : places[place];
    }
}
