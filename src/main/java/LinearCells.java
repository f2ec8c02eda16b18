/**
 * Procedures of a small language with memory by hand, a checker of linear types for them and an
 * evaluator. All rows are made once, in the constructors, and used again by every call.
 */
public final class LinearCells {
    private static final int MOST_PROCEDURES = 4;
    private static final int MOST_CHARACTERS = 120;
    private static final int CHARACTERS_A_CALL = 8;
    private static final int LOWEST_CHARACTER = 32;
    private static final int HIGHEST_CHARACTER = 126;

    // A compound expression's kind is the sign behind its bracket.
    private static final int NUMBER = '#';
    private static final int VARIABLE = 'v';
    private static final int ADD = '+';
    private static final int SUBTRACT = '-';
    private static final int MULTIPLY = '*';
    private static final int LESS = '<';
    private static final int CHOOSE = '?';
    private static final int LET = ':';
    private static final int PAIR = ',';
    private static final int SPLIT = '/';
    private static final int MAKE = 'n';
    private static final int GET = 'g';
    private static final int PUT = 'p';
    private static final int FREE = 'd';
    private static final int CALL = '@';

    // Which part of what is bound a variable stands for.
    private static final int WHOLE = 0;
    private static final int FIRST_PART = 1;
    private static final int SECOND_PART = 2;

    private final char[] characters = new char[MOST_CHARACTERS];
    private int characterCount;
    private final Procedure[] procedures = new Procedure[MOST_PROCEDURES];
    // A draft is read into this one, so that a refused draft leaves the older procedure as it was.
    private Procedure spare = new Procedure();
    private final Reader reader = new Reader();
    private final Checker checker = new Checker();
    private final Machine machine = new Machine();

    public LinearCells() {
        for (int k = 0; k < MOST_PROCEDURES; k++) {
            procedures[k] = new Procedure();
        }
    }

    public boolean draft(long s) {
        int more = charactersIn(s);
        if (more == 0 || characterCount + more > MOST_CHARACTERS) {
            return false;
        }
        for (int i = 0; i < more; i++) {
            characters[characterCount + i] = (char) byteOf(s, i);
        }
        characterCount += more;
        return true;
    }

    public int define(int k) throws IllegalArgumentException, UnsupportedOperationException {
        int length = characterCount;
        characterCount = 0;
        if (!isProcedureNumber(k) || !reader.reads(characters, length, spare)) {
            throw new IllegalArgumentException();
        }
        if (reader.metUnboundVariable()) {
            throw new UnsupportedOperationException();
        }
        Procedure older = procedures[k];
        procedures[k] = spare;
        spare = older;
        procedures[k].there = true;
        return procedures[k].count;
    }

    public boolean sound(int k) {
        if (!isThere(k)) {
            return false;
        }
        int reached = reachedFrom(k);
        for (int other = 0; other < MOST_PROCEDURES; other++) {
            if (hasBit(reached, other) && !checker.findsNoFault(procedures, other)) {
                return false;
            }
        }
        return true;
    }

    public int typed(int k) throws IllegalStateException {
        if (!isThere(k)) {
            throw new IllegalStateException();
        }
        return checker.numberOfBodyType(procedures, k);
    }

    public int run(int k, int n) throws IllegalStateException {
        if (!isThere(k)) {
            throw new IllegalStateException();
        }
        return machine.trapOf(procedures, k, n);
    }

    public int value(int what) throws IllegalArgumentException {
        switch (what) {
            case 0:
                return Value.kindOf(machine.result());
            case 1:
                return machine.leadingNumber();
            case 2:
                return machine.memory().cellsIn(machine.result());
            case 3:
                return machine.memory().numbersIn(machine.result());
            default:
                throw new IllegalArgumentException();
        }
    }

    public int heap(int what) throws IllegalArgumentException {
        switch (what) {
            case 0:
                return machine.memory().cellsMade() - machine.memory().cellsFreed();
            case 1:
                return machine.memory().cellsMade();
            case 2:
                return machine.memory().cellsFreed();
            case 3:
                return machine.memory().pairsMade();
            case 4:
                return machine.expressionsBegun();
            default:
                throw new IllegalArgumentException();
        }
    }

    public int cell(int place) throws IndexOutOfBoundsException {
        if (machine.memory().isFree(place)) {
            throw new IndexOutOfBoundsException();
        }
        return machine.memory().numberAt(place);
    }

    /** How many characters s brings; 0 if it brings none, or one that no draft may hold. */
    private static int charactersIn(long s) {
        for (int i = 0; i < CHARACTERS_A_CALL; i++) {
            int character = byteOf(s, i);
            if (character == 0) {
                return i;
            }
            if (character < LOWEST_CHARACTER || character > HIGHEST_CHARACTER) {
                return 0;
            }
        }
        return CHARACTERS_A_CALL;
    }

    private static int byteOf(long s, int i) {
        return (int) (s >>> (8 * i)) & 255;
    }

    private static boolean isProcedureNumber(int k) {
        return k >= 0 && k < MOST_PROCEDURES;
    }

    private static boolean hasBit(int bits, int k) {
        return (bits >> k & 1) == 1;
    }

    private boolean isThere(int k) {
        return isProcedureNumber(k) && procedures[k].there;
    }

    /** The procedures that a run of procedure k may come to, itself among them: bit i for i. */
    private int reachedFrom(int k) {
        int reached = 1 << k;
        // Each round but the last brings a new one, so as many rounds as procedures are enough.
        for (int round = 0; round < MOST_PROCEDURES; round++) {
            for (int other = 0; other < MOST_PROCEDURES; other++) {
                if (hasBit(reached, other) && procedures[other].there) {
                    reached |= procedures[other].callees;
                }
            }
        }
        return reached;
    }

    /**
     * What the text of a procedure says. The expressions lie in the rows in the order in which
     * they end in the text: each behind its parts, the body as the last one, and all of a part f
     * that follows a part e at e + 1 .. f.
     */
    private static final class Procedure {
        static final int NONE = -1;
        static final int VARIABLE_BINDER = 0;
        static final int TYPE_I = 1;
        static final int TYPE_R = 2;
        static final int TYPE_PAIR = 3;
        // Two types, each with at most 16 + 8 + 4 + 2 + 1 types in it.
        private static final int MOST_TYPE_SIGNS = 62;
        // Each expression has a character of its own.
        static final int MOST_EXPRESSIONS = MOST_CHARACTERS;
        // The procedure's own, and at most 23 more: each takes five characters, the rest at least four.
        static final int MOST_BINDERS = MOST_CHARACTERS / 5;

        boolean there;
        int callees;

        // The variable's type and the given one; a pair stands behind its two parts.
        final int[] typeSigns = new int[MOST_TYPE_SIGNS];
        int typeSignCount;
        int variableTypeEnd;

        final int[] kind = new int[MOST_EXPRESSIONS];
        final int[] first = new int[MOST_EXPRESSIONS];
        final int[] second = new int[MOST_EXPRESSIONS];
        final int[] third = new int[MOST_EXPRESSIONS];
        // A number's own, the procedure of a call, or which part a variable stands for.
        final int[] number = new int[MOST_EXPRESSIONS];
        final int[] binder = new int[MOST_EXPRESSIONS];
        int count;

        // The expression that a binder gives names to; the procedure's own binder has none.
        final int[] bound = new int[MOST_BINDERS];
        int binderCount;

        void clear() {
            there = false;
            callees = 0;
            typeSignCount = 0;
            variableTypeEnd = 0;
            count = 0;
            bound[VARIABLE_BINDER] = NONE;
            binderCount = 1;
        }

        int body() {
            return count - 1;
        }

        boolean addTypeSign(int sign) {
            if (typeSignCount >= MOST_TYPE_SIGNS) {
                return false;
            }
            typeSigns[typeSignCount] = sign;
            typeSignCount++;
            return true;
        }

        int addBinder(int expression) {
            if (binderCount >= MOST_BINDERS) {
                return NONE;
            }
            bound[binderCount] = expression;
            binderCount++;
            return binderCount - 1;
        }

        int addLeaf(int itsKind, int itsNumber, int itsBinder) {
            int added = addForm(itsKind, NONE, NONE, NONE);
            return annotate(added, itsNumber, itsBinder);
        }

        int addForm(int itsKind, int e, int f, int g) {
            if (count >= MOST_EXPRESSIONS) {
                return NONE;
            }
            kind[count] = itsKind;
            first[count] = e;
            second[count] = f;
            third[count] = g;
            number[count] = 0;
            binder[count] = NONE;
            count++;
            return count - 1;
        }

        int annotate(int expression, int itsNumber, int itsBinder) {
            if (expression != NONE) {
                number[expression] = itsNumber;
                binder[expression] = itsBinder;
            }
            return expression;
        }
    }

    /** Reads the text of a procedure, one sign after the other. */
    private static final class Reader {
        private static final int FAULT = Procedure.NONE;
        private static final int END = 0;
        private static final int DEEPEST_TYPE = 4;
        private static final int DEEPEST_EXPRESSION = 16;
        private static final int MOST_DIGITS = 4;
        // The procedure's variable, and at most two for each expression that lies round a place.
        private static final int MOST_NAMES = 1 + 2 * DEEPEST_EXPRESSION;

        private char[] text;
        private int length;
        private int at;
        private Procedure made;
        private boolean unbound;

        private final int[] names = new int[MOST_NAMES];
        private final int[] binders = new int[MOST_NAMES];
        private final int[] parts = new int[MOST_NAMES];
        private int nameCount;

        boolean metUnboundVariable() {
            return unbound;
        }

        /** Whether the text is one of a procedure; if so, that one now holds what it says. */
        boolean reads(char[] itsText, int itsLength, Procedure procedure) {
            text = itsText;
            length = itsLength;
            at = 0;
            made = procedure;
            made.clear();
            unbound = false;
            nameCount = 0;
            int variable = nextSign();
            if (!isLetter(variable) || !readType(0)) {
                return false;
            }
            made.variableTypeEnd = made.typeSignCount;
            addName(variable, Procedure.VARIABLE_BINDER, WHOLE);
            return readType(0) && readExpression(0) != FAULT && nextSign() == END;
        }

        private int nextSign() {
            while (at < length && text[at] == ' ') {
                at++;
            }
            if (at >= length) {
                return END;
            }
            at++;
            return text[at - 1];
        }

        private static boolean isLetter(int sign) {
            return sign >= 'a' && sign <= 'z';
        }

        private static boolean isDigit(int sign) {
            return sign >= '0' && sign <= '9';
        }

        private boolean readType(int depth) {
            if (depth > DEEPEST_TYPE) {
                return false;
            }
            switch (nextSign()) {
                case 'i':
                    return made.addTypeSign(Procedure.TYPE_I);
                case 'r':
                    return made.addTypeSign(Procedure.TYPE_R);
                case '(':
                    return readType(depth + 1) && readType(depth + 1) && nextSign() == ')'
                        && made.addTypeSign(Procedure.TYPE_PAIR);
                default:
                    return false;
            }
        }

        private int readExpression(int depth) {
            if (depth > DEEPEST_EXPRESSION) {
                return FAULT;
            }
            int sign = nextSign();
            if (isLetter(sign)) {
                return addVariable(sign);
            }
            if (isDigit(sign)) {
                int number = readNumber(sign);
                return number == FAULT ? FAULT : made.addLeaf(NUMBER, number, Procedure.NONE);
            }
            if (sign != '(') {
                return FAULT;
            }
            int form = readForm(nextSign(), depth + 1);
            return form != FAULT && nextSign() == ')' ? form : FAULT;
        }

        private int readNumber(int firstDigit) {
            int number = firstDigit - '0';
            int digits = 1;
            while (at < length && isDigit(text[at])) {
                number = 10 * number + text[at] - '0';
                digits++;
                at++;
                if (digits > MOST_DIGITS) {
                    return FAULT;
                }
            }
            return number;
        }

        private int readForm(int kind, int depth) {
            switch (kind) {
                case MAKE:
                case GET:
                case FREE:
                    return readOne(kind, depth);
                case ADD:
                case SUBTRACT:
                case MULTIPLY:
                case LESS:
                case PAIR:
                case PUT:
                    return readTwo(kind, depth);
                case CHOOSE:
                    return readThree(kind, depth);
                case LET:
                    return readLet(depth);
                case SPLIT:
                    return readSplit(depth);
                case CALL:
                    return readCall(depth);
                default:
                    return FAULT;
            }
        }

        private int readOne(int kind, int depth) {
            int e = readExpression(depth);
            return e == FAULT ? FAULT : made.addForm(kind, e, Procedure.NONE, Procedure.NONE);
        }

        private int readTwo(int kind, int depth) {
            int e = readExpression(depth);
            int f = e == FAULT ? FAULT : readExpression(depth);
            return f == FAULT ? FAULT : made.addForm(kind, e, f, Procedure.NONE);
        }

        private int readThree(int kind, int depth) {
            int c = readExpression(depth);
            int e = c == FAULT ? FAULT : readExpression(depth);
            int f = e == FAULT ? FAULT : readExpression(depth);
            return f == FAULT ? FAULT : made.addForm(kind, c, e, f);
        }

        private int readLet(int depth) {
            int name = nextSign();
            if (!isLetter(name)) {
                return FAULT;
            }
            int e = readExpression(depth);
            int binder = e == FAULT ? FAULT : made.addBinder(e);
            if (binder == FAULT) {
                return FAULT;
            }
            addName(name, binder, WHOLE);
            return readBound(LET, e, binder, depth);
        }

        private int readSplit(int depth) {
            int name = nextSign();
            int otherName = nextSign();
            if (!isLetter(name) || !isLetter(otherName) || name == otherName) {
                return FAULT;
            }
            int e = readExpression(depth);
            int binder = e == FAULT ? FAULT : made.addBinder(e);
            if (binder == FAULT) {
                return FAULT;
            }
            addName(name, binder, FIRST_PART);
            addName(otherName, binder, SECOND_PART);
            return readBound(SPLIT, e, binder, depth);
        }

        /** Reads the part of : or / for which the binder's names hold, and forgets them. */
        private int readBound(int kind, int e, int binder, int depth) {
            int f = readExpression(depth);
            forgetNames(binder);
            if (f == FAULT) {
                return FAULT;
            }
            return made.annotate(made.addForm(kind, e, f, Procedure.NONE), 0, binder);
        }

        private int readCall(int depth) {
            int sign = nextSign();
            int callee = isDigit(sign) ? readNumber(sign) : FAULT;
            if (!isProcedureNumber(callee)) {
                return FAULT;
            }
            made.callees |= 1 << callee;
            int call = readOne(CALL, depth);
            return made.annotate(call, callee, Procedure.NONE);
        }

        private void addName(int name, int binder, int part) {
            if (nameCount < MOST_NAMES) {
                names[nameCount] = name;
                binders[nameCount] = binder;
                parts[nameCount] = part;
                nameCount++;
            }
        }

        private void forgetNames(int binder) {
            while (nameCount > 0 && binders[nameCount - 1] == binder) {
                nameCount--;
            }
        }

        private int addVariable(int name) {
            for (int i = nameCount - 1; i >= 0; i--) {
                if (names[i] == name) {
                    return made.addLeaf(VARIABLE, parts[i], binders[i]);
                }
            }
            // Reading goes on, for a text that is none at all is the graver fault.
            unbound = true;
            return made.addLeaf(VARIABLE, WHOLE, Procedure.VARIABLE_BINDER);
        }
    }

    /**
     * The types met in checking one body. Each is kept once, so that two types are the same if
     * their places are: doubled pairs would be too large to be walked through.
     */
    private static final class Types {
        static final int NONE = 0;
        static final int I = Procedure.TYPE_I;
        static final int R = Procedure.TYPE_R;
        private static final int FIRST_PAIR = 3;
        // At most 15 pairs in each of the eight written types, and one more for each expression.
        private static final int MOST_TYPES = FIRST_PAIR + 120 + Procedure.MOST_EXPRESSIONS;
        // A written type is at most four deep: four first parts wait for second ones, and one of these.
        private static final int MOST_WAITING = 5;

        private final int[] first = new int[MOST_TYPES];
        private final int[] second = new int[MOST_TYPES];
        private final int[] number = new int[MOST_TYPES];
        private final boolean[] linear = new boolean[MOST_TYPES];
        private int count = FIRST_PAIR;
        private final int[] waiting = new int[MOST_WAITING];

        Types() {
            number[I] = 1;
            number[R] = 2;
            linear[R] = true;
        }

        void forgetPairs() {
            count = FIRST_PAIR;
        }

        boolean isPair(int type) {
            return type >= FIRST_PAIR;
        }

        boolean isLinear(int type) {
            return linear[type];
        }

        int numberOf(int type) {
            return number[type];
        }

        /** A variable's type if what is bound has this one: NONE for a part of what is no pair. */
        int partOf(int type, int part) {
            if (part == WHOLE) {
                return type;
            }
            return part == FIRST_PART ? first[type] : second[type];
        }

        int pairOf(int e, int f) {
            if (e == NONE || f == NONE) {
                return NONE;
            }
            for (int type = FIRST_PAIR; type < count; type++) {
                if (first[type] == e && second[type] == f) {
                    return type;
                }
            }
            if (count >= MOST_TYPES) {
                return NONE;
            }
            first[count] = e;
            second[count] = f;
            number[count] = 8 * number[e] + number[f] + 3;
            linear[count] = linear[e] || linear[f];
            count++;
            return count - 1;
        }

        /** The type that a procedure's signs from .. end - 1 write. */
        int written(Procedure procedure, int from, int end) {
            int height = 0;
            for (int i = from; i < end; i++) {
                int sign = procedure.typeSigns[i];
                if (sign != Procedure.TYPE_PAIR && height < MOST_WAITING) {
                    waiting[height] = sign;
                    height++;
                } else if (height >= 2) {
                    height--;
                    waiting[height - 1] = pairOf(waiting[height - 1], waiting[height]);
                }
            }
            return height == 1 ? waiting[0] : NONE;
        }
    }

    /** Sees to the types and the uses of variables in a body. */
    private static final class Checker {
        private static final int UNLIKE = -1;

        private final Types types = new Types();
        // The written types of all procedures; NONE for one that is not there.
        private final int[] variableTypes = new int[MOST_PROCEDURES];
        private final int[] givenTypes = new int[MOST_PROCEDURES];
        private int checkedNumber;
        private Procedure checked;
        private final int[] typeOf = new int[Procedure.MOST_EXPRESSIONS];
        private final int[] uses = new int[Procedure.MOST_EXPRESSIONS];

        int numberOfBodyType(Procedure[] procedures, int k) {
            return types.numberOf(findBodyType(procedures, k));
        }

        boolean findsNoFault(Procedure[] procedures, int k) {
            if (!procedures[k].there) {
                return false;
            }
            int type = findBodyType(procedures, k);
            return type != Types.NONE && type == givenTypes[k] && eachVariableIsUsedWell();
        }

        private int findBodyType(Procedure[] procedures, int k) {
            findWrittenTypes(procedures);
            checkedNumber = k;
            checked = procedures[k];
            // An expression lies behind its parts and behind what its variables stand for.
            for (int i = 0; i < checked.count; i++) {
                typeOf[i] = findType(i);
            }
            return typeOfPart(checked.body());
        }

        private void findWrittenTypes(Procedure[] procedures) {
            types.forgetPairs();
            for (int k = 0; k < MOST_PROCEDURES; k++) {
                Procedure p = procedures[k];
                variableTypes[k] = Types.NONE;
                givenTypes[k] = Types.NONE;
                if (p.there) {
                    variableTypes[k] = types.written(p, 0, p.variableTypeEnd);
                    givenTypes[k] = types.written(p, p.variableTypeEnd, p.typeSignCount);
                }
            }
        }

        private int typeOfPart(int expression) {
            return expression < 0 ? Types.NONE : typeOf[expression];
        }

        private int findType(int i) {
            int e = typeOfPart(checked.first[i]);
            int f = typeOfPart(checked.second[i]);
            switch (checked.kind[i]) {
                case NUMBER:
                    return Types.I;
                case VARIABLE:
                    return types.partOf(typeOfBound(checked.binder[i]), checked.number[i]);
                case CHOOSE:
                    return e == Types.I && f == typeOfPart(checked.third[i]) ? f : Types.NONE;
                case LET:
                    return e != Types.NONE ? f : Types.NONE;
                case SPLIT:
                    return types.isPair(e) ? f : Types.NONE;
                case PAIR:
                    return types.pairOf(e, f);
                case MAKE:
                    return e == Types.I ? Types.R : Types.NONE;
                case GET:
                    return e == Types.R ? types.pairOf(Types.I, Types.R) : Types.NONE;
                case PUT:
                    return e == Types.R && f == Types.I ? Types.R : Types.NONE;
                case FREE:
                    return e == Types.R ? Types.I : Types.NONE;
                case CALL:
                    return e == variableTypes[checked.number[i]]
                        ? givenTypes[checked.number[i]] : Types.NONE;
                default:
                    return e == Types.I && f == Types.I ? Types.I : Types.NONE;
            }
        }

        private int typeOfBound(int binder) {
            if (binder == Procedure.VARIABLE_BINDER) {
                return variableTypes[checkedNumber];
            }
            return typeOfPart(checked.bound[binder]);
        }

        private boolean eachVariableIsUsedWell() {
            if (!isUsedWell(Procedure.VARIABLE_BINDER, WHOLE, checked.body())) {
                return false;
            }
            for (int i = 0; i < checked.count; i++) {
                int binder = checked.binder[i];
                int scope = checked.second[i];
                if (checked.kind[i] == LET && !isUsedWell(binder, WHOLE, scope)) {
                    return false;
                }
                if (checked.kind[i] == SPLIT && !(isUsedWell(binder, FIRST_PART, scope)
                        && isUsedWell(binder, SECOND_PART, scope))) {
                    return false;
                }
            }
            return true;
        }

        /** Whether the variable for a binder's part, which holds in scope, is used as it must be. */
        private boolean isUsedWell(int binder, int part, int scope) {
            return !types.isLinear(types.partOf(typeOfBound(binder), part))
                || usesOf(binder, part, scope) == 1;
        }

        private int usesOf(int binder, int part, int scope) {
            for (int i = checked.bound[binder] + 1; i <= scope; i++) {
                int e = usesOfPart(checked.first[i]);
                int f = usesOfPart(checked.second[i]);
                if (checked.kind[i] == CHOOSE && f != usesOfPart(checked.third[i])) {
                    return UNLIKE;
                }
                uses[i] = e + f;
                if (checked.binder[i] == binder && checked.number[i] == part
                        && checked.kind[i] == VARIABLE) {
                    uses[i] = 1;
                }
            }
            return usesOfPart(scope);
        }

        private int usesOfPart(int expression) {
            return expression < 0 ? 0 : uses[expression];
        }
    }

    /** Values as longs: the kind above, and below it the number, the place or which pair. */
    private static final class Value {
        static final long NONE = 0;
        static final int A_NUMBER = 1;
        static final int A_CELL = 2;
        static final int A_PAIR = 3;

        static long of(int kind, int word) {
            return (long) kind << 32 | word & 0xFFFFFFFFL;
        }

        static int kindOf(long value) {
            return (int) (value >> 32);
        }

        static int wordOf(long value) {
            return (int) value;
        }

        static boolean isNumber(long value) {
            return value >> 32 == A_NUMBER;
        }

        static boolean isCell(long value) {
            return value >> 32 == A_CELL;
        }

        static boolean isPair(long value) {
            return value >> 32 == A_PAIR;
        }
    }

    /** The heap of a run, and the pairs that it has made. */
    private static final class Memory {
        static final int NO_PLACE = -1;
        private static final int PLACES = 12;
        private static final int MOST_PAIRS = 120;

        private final boolean[] taken = new boolean[PLACES];
        private final int[] numbers = new int[PLACES];
        private int made;
        private int freed;

        private final long[] first = new long[MOST_PAIRS];
        private final long[] second = new long[MOST_PAIRS];
        // What is in a pair is summed up: pairs share parts, so walking through one could take ages.
        private final int[] cellCount = new int[MOST_PAIRS];
        private final int[] numberCount = new int[MOST_PAIRS];
        private final boolean[] withNumber = new boolean[MOST_PAIRS];
        private final int[] firstNumber = new int[MOST_PAIRS];
        private int pairs;

        void clear() {
            for (int place = 0; place < PLACES; place++) {
                taken[place] = false;
            }
            made = 0;
            freed = 0;
            pairs = 0;
        }

        int cellsMade() {
            return made;
        }

        int cellsFreed() {
            return freed;
        }

        int pairsMade() {
            return pairs;
        }

        /** What is no place counts as free. */
        boolean isFree(int place) {
            return place < 0 || place >= PLACES || !taken[place];
        }

        int numberAt(int place) {
            return isFree(place) ? 0 : numbers[place];
        }

        void putNumber(int place, int number) {
            if (!isFree(place)) {
                numbers[place] = number;
            }
        }

        int takePlace(int number) {
            for (int place = 0; place < PLACES; place++) {
                if (!taken[place]) {
                    taken[place] = true;
                    numbers[place] = number;
                    made++;
                    return place;
                }
            }
            return NO_PLACE;
        }

        void freePlace(int place) {
            if (!isFree(place)) {
                taken[place] = false;
                freed++;
            }
        }

        /** Whether there is room for one more pair, which is then made. */
        boolean addPair(long e, long f) {
            if (pairs >= MOST_PAIRS) {
                return false;
            }
            first[pairs] = e;
            second[pairs] = f;
            pairs++;
            return true;
        }

        /** A pair is made later than its parts, so the sums of these are there first. */
        void sumUpPairs() {
            for (int pair = 0; pair < pairs; pair++) {
                long e = first[pair];
                long f = second[pair];
                cellCount[pair] = cellsIn(e) + cellsIn(f);
                numberCount[pair] = numbersIn(e) + numbersIn(f);
                withNumber[pair] = hasNumber(e) || hasNumber(f);
                firstNumber[pair] = hasNumber(e) ? firstNumberIn(e) : firstNumberIn(f);
            }
        }

        private boolean isMade(int pair) {
            return pair >= 0 && pair < pairs;
        }

        long partOf(long value, int part) {
            int pair = Value.wordOf(value);
            if (part == WHOLE || !Value.isPair(value) || !isMade(pair)) {
                return value;
            }
            return part == FIRST_PART ? first[pair] : second[pair];
        }

        int cellsIn(long value) {
            int pair = Value.wordOf(value);
            if (Value.isPair(value) && isMade(pair)) {
                return cellCount[pair];
            }
            return Value.isCell(value) ? 1 : 0;
        }

        int numbersIn(long value) {
            int pair = Value.wordOf(value);
            if (Value.isPair(value) && isMade(pair)) {
                return numberCount[pair];
            }
            return Value.isNumber(value) ? 1 : 0;
        }

        /** Counts of numbers go round, so they don't tell this. */
        private boolean hasNumber(long value) {
            int pair = Value.wordOf(value);
            if (Value.isPair(value) && isMade(pair)) {
                return withNumber[pair];
            }
            return Value.isNumber(value);
        }

        int firstNumberIn(long value) {
            int pair = Value.wordOf(value);
            if (Value.isPair(value) && isMade(pair)) {
                return firstNumber[pair];
            }
            return Value.isNumber(value) ? pair : 0;
        }
    }

    /**
     * Runs procedures. The expressions that are begun and not ended lie in rows of its own, for
     * they may lie deeper in one another than calls of Java should.
     */
    private static final class Machine {
        private static final int NO_TRAP = 0;
        private static final int TRAP_FREE_PLACE = 1;
        private static final int TRAP_NO_ROOM = 2;
        private static final int TRAP_TOO_LONG = 3;
        private static final int TRAP_WRONG_PART = 4;
        private static final int MOST_BEGUN = 2000;
        private static final int DEEPEST_CALL = 24;
        private static final int MOST_OPEN = DEEPEST_CALL * (Reader.DEEPEST_EXPRESSION + 1);
        // An expression is taken up once, and once more behind each of at most two parts.
        private static final int MOST_STEPS = 3 * MOST_BEGUN;

        private final Memory memory = new Memory();
        private Procedure[] procedures;
        private int begun;
        private int trap;
        // The value of the expression that ended last.
        private long latest;

        // The procedures that are open, from 1 on, and what their binders stand for.
        private final Procedure[] running = new Procedure[DEEPEST_CALL + 1];
        private final long[] bound = new long[(DEEPEST_CALL + 1) * Procedure.MOST_BINDERS];

        // The expressions that are open, each with its call's depth, its stage and its first part's value.
        private final int[] expressions = new int[MOST_OPEN];
        private final int[] depths = new int[MOST_OPEN];
        private final int[] stages = new int[MOST_OPEN];
        private final long[] kept = new long[MOST_OPEN];
        private int open;

        Memory memory() {
            return memory;
        }

        int expressionsBegun() {
            return begun;
        }

        long result() {
            return latest;
        }

        int leadingNumber() {
            return Value.isCell(latest) ? Value.wordOf(latest) : memory.firstNumberIn(latest);
        }

        /** Runs procedure k with a number; what it trapped by. */
        int trapOf(Procedure[] all, int k, int number) {
            procedures = all;
            memory.clear();
            begun = 0;
            trap = NO_TRAP;
            open = 0;
            latest = Value.of(Value.A_NUMBER, number);
            enter(k, 1);
            for (int step = 0; step < MOST_STEPS && open > 0 && trap == NO_TRAP; step++) {
                takeStep();
            }
            if (trap != NO_TRAP) {
                latest = Value.NONE;
            }
            memory.sumUpPairs();
            return trap;
        }

        private void enter(int k, int depth) {
            if (!procedures[k].there) {
                trap = TRAP_WRONG_PART;
            } else if (depth > DEEPEST_CALL) {
                trap = TRAP_TOO_LONG;
            } else {
                running[depth] = procedures[k];
                bind(depth, Procedure.VARIABLE_BINDER);
                begin(procedures[k].body(), depth);
            }
        }

        private void bind(int depth, int binder) {
            bound[depth * Procedure.MOST_BINDERS + binder] = latest;
        }

        private void begin(int expression, int depth) {
            if (begun >= MOST_BEGUN || open >= MOST_OPEN) {
                trap = TRAP_TOO_LONG;
                return;
            }
            begun++;
            expressions[open] = expression;
            depths[open] = depth;
            stages[open] = 0;
            open++;
        }

        private void end(long value) {
            latest = value;
            open--;
        }

        /** Takes up the innermost open expression; its stage is how often this was done before. */
        private void takeStep() {
            int top = open - 1;
            int depth = depths[top];
            int i = expressions[top];
            int stage = stages[top];
            int kind = running[depth].kind[i];
            stages[top]++;
            if (kind == NUMBER) {
                end(Value.of(Value.A_NUMBER, running[depth].number[i]));
            } else if (kind == VARIABLE) {
                end(valueOfVariable(i, depth));
            } else if (stage == 0) {
                begin(running[depth].first[i], depth);
            } else if (stage == 1 && kind != MAKE && kind != GET && kind != FREE) {
                goOn(i, depth);
            } else {
                finish(kind, kept[top], latest);
            }
        }

        private long valueOfVariable(int i, int depth) {
            Procedure procedure = running[depth];
            long whole = bound[depth * Procedure.MOST_BINDERS + procedure.binder[i]];
            return memory.partOf(whole, procedure.number[i]);
        }

        /** Goes on from the value of an expression's first part to what is to be begun next. */
        private void goOn(int i, int depth) {
            Procedure procedure = running[depth];
            switch (procedure.kind[i]) {
                case CALL:
                    enter(procedure.number[i], depth + 1);
                    break;
                case CHOOSE:
                    choose(i, depth);
                    break;
                case SPLIT:
                    split(i, depth);
                    break;
                case LET:
                    bind(depth, procedure.binder[i]);
                    begin(procedure.second[i], depth);
                    break;
                default:
                    kept[open - 1] = latest;
                    begin(procedure.second[i], depth);
                    break;
            }
        }

        private void choose(int i, int depth) {
            if (!Value.isNumber(latest)) {
                trap = TRAP_WRONG_PART;
            } else if (Value.wordOf(latest) != 0) {
                begin(running[depth].second[i], depth);
            } else {
                begin(running[depth].third[i], depth);
            }
        }

        private void split(int i, int depth) {
            if (!Value.isPair(latest)) {
                trap = TRAP_WRONG_PART;
            } else {
                bind(depth, running[depth].binder[i]);
                begin(running[depth].second[i], depth);
            }
        }

        /** Ends an expression: e is the value of the first one of two parts, last that of the last. */
        private void finish(int kind, long e, long last) {
            switch (kind) {
                case CHOOSE:
                case LET:
                case SPLIT:
                case CALL:
                    end(last);
                    break;
                case MAKE:
                    makeCell(last);
                    break;
                case GET:
                    getNumber(last);
                    break;
                case FREE:
                    freeCell(last);
                    break;
                case PUT:
                    putNumber(e, last);
                    break;
                case PAIR:
                    makePair(e, last);
                    break;
                default:
                    calculate(kind, e, last);
                    break;
            }
        }

        private void makeCell(long e) {
            if (!Value.isNumber(e)) {
                trap = TRAP_WRONG_PART;
                return;
            }
            int place = memory.takePlace(Value.wordOf(e));
            if (place == Memory.NO_PLACE) {
                trap = TRAP_NO_ROOM;
            } else {
                end(Value.of(Value.A_CELL, place));
            }
        }

        private void getNumber(long e) {
            if (isLivingCell(e)) {
                int number = memory.numberAt(Value.wordOf(e));
                makePair(Value.of(Value.A_NUMBER, number), e);
            }
        }

        private void freeCell(long e) {
            if (isLivingCell(e)) {
                int number = memory.numberAt(Value.wordOf(e));
                memory.freePlace(Value.wordOf(e));
                end(Value.of(Value.A_NUMBER, number));
            }
        }

        private void putNumber(long e, long f) {
            if (!Value.isNumber(f)) {
                trap = TRAP_WRONG_PART;
            } else if (isLivingCell(e)) {
                memory.putNumber(Value.wordOf(e), Value.wordOf(f));
                end(e);
            }
        }

        /** Whether a value is a cell whose place is not free; if it is none, that is a trap. */
        private boolean isLivingCell(long e) {
            if (!Value.isCell(e)) {
                trap = TRAP_WRONG_PART;
            } else if (memory.isFree(Value.wordOf(e))) {
                trap = TRAP_FREE_PLACE;
            }
            return trap == NO_TRAP;
        }

        private void makePair(long e, long f) {
            if (memory.addPair(e, f)) {
                end(Value.of(Value.A_PAIR, memory.pairsMade() - 1));
            } else {
                trap = TRAP_NO_ROOM;
            }
        }

        private void calculate(int kind, long e, long f) {
            if (!Value.isNumber(e) || !Value.isNumber(f)) {
                trap = TRAP_WRONG_PART;
                return;
            }
            int number = numberOf(kind, Value.wordOf(e), Value.wordOf(f));
            end(Value.of(Value.A_NUMBER, number));
        }

        private static int numberOf(int kind, int e, int f) {
            switch (kind) {
                case ADD:
                    return e + f;
                case SUBTRACT:
                    return e - f;
                case MULTIPLY:
                    return e * f;
                default:
                    return e < f ? 1 : 0;
            }
        }
    }
}
