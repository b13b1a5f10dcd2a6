/**
 * Arrays as a language of classes has them. Expressions are told as nodes and worked;
 * what they note, make and change stays. The promises are those of the document DOC.md.
 */
public final class ArrayRules {
    public static final int NONE = -1, OUTSIDE = -2, ROOM = -3;

    // The kinds of VALUES bear the numbers that run() and has() answer.
    private static final int A_NUMBER = 0, A_NULL = 1, A_THING = 2;

    private static final int MOST_NODES = 80, MOST_THINGS = 400, MOST_ELEMENTS = 4000;
    private static final int MOST_NOTES = 256, MOST_WORKED = 3000, MOST_CATCHES = 40;
    private static final int VARIABLES = 8;

    // A VARIED holds at most one VALUE for each LIST told, and those that stand open at once
    // are NODES too: v VARIEDS times l LISTS, where v + l is 80 at most.
    private static final int MOST_HELD = (MOST_NODES / 2) * (MOST_NODES / 2);

    private final Program program = new Program();
    private final Heap heap = new Heap();
    private final Worker worker = new Worker(program, heap);

    public ArrayRules() {
    }

    public int node(int code, int a, int b, int c, int d) {
        return program.tell(code, a, b, c, d);
    }

    public int clear() {
        return program.forget();
    }

    public int run(int node) {
        return program.isNode(node) ? worker.start(node) : OUTSIDE;
    }

    public long value() {
        return worker.amount;
    }

    public int where() {
        return worker.failedAt;
    }

    public int worked() {
        return worker.nodesWorked;
    }

    public int notes() {
        return worker.noted;
    }

    public int note(int i) {
        return worker.kept(i);
    }

    public int has(int variable) {
        return isVariable(variable) ? worker.variableKinds[variable] : OUTSIDE;
    }

    public long get(int variable) {
        return isVariable(variable) ? worker.variableAmounts[variable] : 0;
    }

    public int thing(int thing, int what) {
        if (!heap.isThing(thing)) {
            return OUTSIDE;
        }
        switch (what) {
            case 0:
                return heap.typeOf(thing);
            case 1:
                return heap.lengthOf(thing);
            case 2:
                return heap.thingsIn(thing);
            default:
                return OUTSIDE;
        }
    }

    public long element(int thing, int i) {
        return heap.amountAt(thing, i);
    }

    public long bits(int thing, int i) {
        return heap.bitsAt(thing, i);
    }

    public int sub(int type, int other) {
        if (!Types.isType(type) || !Types.isType(other)) {
            return OUTSIDE;
        }
        return Types.isSub(type, other) ? 1 : 0;
    }

    public int told(int what) {
        switch (what) {
            case 0:
                return program.count;
            case 1:
                return heap.things;
            case 2:
                return heap.elements;
            default:
                return OUTSIDE;
        }
    }

    private static boolean isVariable(int variable) {
        return variable >= 0 && variable < VARIABLES;
    }

    /** The CODES of NODES. */
    private static final class Code {
        static final int NUMBER = 0, NULL = 1, GET = 2, SET = 3, NOTE = 4, FAIL = 5, PLUS = 6, OVER = 7;
        static final int NEW = 8, MAKE = 9, LIST = 10, FILLED = 11, LENGTH = 12, AT = 13, PUT = 14;
        static final int ADD = 15, STEP = 16, COPY = 17, CAST = 18, IS = 19, SAME = 20, EACH = 21;
        static final int VARIED = 22, THEN = 23, IF = 24, CATCH = 25, MOVE = 26;
    }

    /** The numbers with which NODES FAIL. */
    private static final class Failure {
        static final int NO_FAILURE = 0, NULL_ARRAY = 1, NO_ELEMENT = 2, WRONG_THING = 3, BELOW_ZERO = 4;
        static final int WRONG_CAST = 5, NO_ROOM = 6, TOLD_TO = 7, OVER_ZERO = 8, MISFIT = 9, ENDED = 10;
    }

    /** TYPES are numbers: a BASE and 16 times how many DIMS. */
    private static final class Types {
        static final int BOOLEAN = 0, BYTE = 1, CHAR = 2, SHORT = 3, INT = 4, FLOAT = 6, DOUBLE = 7;
        static final int OBJECT = 8, NAMED = 9, ROOT = 10, LEAF = 11;
        static final int DIM = 16, MOST_DIMS = 3;

        static boolean isType(int type) {
            return type >= 0 && type < DIM * (MOST_DIMS + 1) && type % DIM <= LEAF;
        }

        static boolean isOfArrays(int type) {
            return isType(type) && type >= DIM;
        }

        static boolean isOfNumbers(int type) {
            return type >= BOOLEAN && type <= DOUBLE;
        }

        static boolean isOfInstances(int type) {
            return type == OBJECT || type == ROOT || type == LEAF;
        }

        static boolean isSub(int type, int other) {
            int own = type;
            int wanted = other;
            for (int dim = 0; dim < MOST_DIMS && own >= DIM && wanted >= DIM; dim++) {
                own -= DIM;
                wanted -= DIM;
            }
            switch (wanted) {
                case OBJECT:
                    return own >= OBJECT;
                case NAMED:
                    return own >= NAMED && own <= LEAF;
                case ROOT:
                    return own == ROOT || own == LEAF;
                default:
                    return own == wanted;
            }
        }
    }

    /** Numbers CUT to a BASE, and the bits of floats and doubles. */
    private static final class Numbers {
        private static final int FLOAT_FRACTION = 23, FLOAT_BIAS = 127, FLOAT_SIGN = 31;
        private static final int DOUBLE_FRACTION = 52, DOUBLE_BIAS = 1023, DOUBLE_SIGN = 63;

        static long cut(int base, long number) {
            switch (base) {
                case Types.BOOLEAN:
                    return number != 0 ? 1 : 0;
                case Types.BYTE:
                    return (byte) number;
                case Types.CHAR:
                    return (char) number;
                case Types.SHORT:
                    return (short) number;
                case Types.INT:
                    return (int) number;
                case Types.FLOAT:
                    return (long) (float) number;
                case Types.DOUBLE:
                    return (long) (double) number;
                default:
                    return number;
            }
        }

        static long floatBits(double real) {
            return bitsOf(real, FLOAT_FRACTION, FLOAT_BIAS, FLOAT_SIGN);
        }

        static long doubleBits(double real) {
            return bitsOf(real, DOUBLE_FRACTION, DOUBLE_BIAS, DOUBLE_SIGN);
        }

        // Only whole numbers are ever cut and added, so that there is no fraction below 1,
        // no zero with a sign and, within 512 calls, nothing near infinity.
        private static long bitsOf(double real, int fraction, int bias, int sign) {
            if (real == 0) {
                return 0;
            }
            double size = real < 0 ? -real : real;
            int exponent = 0;
            while (size >= 2 && exponent < bias) {
                size = size / 2;
                exponent++;
            }
            long one = 1L << fraction;
            long bits = ((long) (exponent + bias) << fraction) + ((long) (size * one) - one);
            return real < 0 ? bits | (-1L << sign) : bits;
        }
    }

    /** The NODES that are told. */
    private static final class Program {
        private final int[] codes = new int[MOST_NODES];
        private final int[] a = new int[MOST_NODES];
        private final int[] b = new int[MOST_NODES];
        private final int[] c = new int[MOST_NODES];
        private final int[] d = new int[MOST_NODES];
        private final int[] listLengths = new int[MOST_NODES];
        private int count = 0;

        int tell(int code, int partA, int partB, int partC, int partD) {
            if (!fits(code, partA, partB, partC, partD)) {
                return OUTSIDE;
            }
            if (count >= MOST_NODES) {
                return ROOM;
            }
            codes[count] = code;
            a[count] = partA;
            b[count] = partB;
            c[count] = partC;
            d[count] = partD;
            listLengths[count] = code == Code.LIST ? 1 + lengthOfList(partA) : 0;
            count++;
            return count - 1;
        }

        int forget() {
            int before = count;
            count = 0;
            return before;
        }

        boolean isNode(int node) {
            return node >= 0 && node < count;
        }

        boolean isList(int node) {
            return isNode(node) && codes[node] == Code.LIST;
        }

        /** 0 of NONE, which stands for a LIST without NODES. */
        int lengthOfList(int list) {
            return isList(list) ? listLengths[list] : 0;
        }

        /** A LIST knows only what is before it, so that its NODES are looked up from its end. */
        int nodeOfList(int list, int place) {
            int at = list;
            for (int back = lengthOfList(list) - 1; back > place && isList(at); back--) {
                at = a[at];
            }
            return isList(at) ? b[at] : NONE;
        }

        private boolean fits(int code, int partA, int partB, int partC, int partD) {
            switch (code) {
                case Code.NUMBER:
                case Code.NULL:
                case Code.FAIL:
                    return true;
                case Code.GET:
                    return isVariable(partA);
                case Code.SET:
                    return isVariable(partA) && isNode(partB);
                case Code.NOTE:
                    return isNode(partB);
                case Code.LENGTH:
                case Code.COPY:
                    return isNode(partA);
                case Code.PLUS:
                case Code.OVER:
                case Code.AT:
                case Code.STEP:
                case Code.SAME:
                case Code.THEN:
                    return isNode(partA) && isNode(partB);
                case Code.PUT:
                case Code.ADD:
                case Code.IF:
                    return areNodes(partA, partB, partC);
                case Code.EACH:
                    return isNode(partA) && isVariable(partB) && isNode(partC);
                case Code.CATCH:
                    return isNode(partA) && isNode(partB) && isVariable(partC);
                case Code.MOVE:
                    return areNodes(partA, partB, partC) && lengthOfList(partD) == 2;
                case Code.LIST:
                    return isListOrNone(partA) && isNode(partB);
                default:
                    return fitsWithType(code, partA, partB, partC, partD);
            }
        }

        private boolean fitsWithType(int code, int type, int partB, int partC, int partD) {
            switch (code) {
                case Code.NEW:
                    return Types.isOfInstances(type);
                case Code.MAKE:
                    return Types.isOfArrays(type) && sizesFit(type / Types.DIM, partB, partC, partD);
                case Code.FILLED:
                case Code.VARIED:
                    return Types.isOfArrays(type) && isListOrNone(partB);
                case Code.CAST:
                    return Types.isType(type) && isNode(partB);
                case Code.IS:
                    return Types.isType(type) && !Types.isOfNumbers(type) && isNode(partB);
                default:
                    return false;
            }
        }

        private boolean sizesFit(int dims, int first, int second, int third) {
            if (!isNode(first)) {
                return false;
            }
            if (second == NONE) {
                return third == NONE;
            }
            if (dims < 2 || !isNode(second)) {
                return false;
            }
            return third == NONE || dims > 2 && isNode(third);
        }

        private boolean areNodes(int x, int y, int z) {
            return isNode(x) && isNode(y) && isNode(z);
        }

        private boolean isListOrNone(int part) {
            return part == NONE || isList(part);
        }
    }

    /** The THINGS that were made, and their ELEMENTS, which stand one behind the other in one row. */
    private static final class Heap {
        private final int[] types = new int[MOST_THINGS];
        private final int[] starts = new int[MOST_THINGS];
        private final int[] lengths = new int[MOST_THINGS];
        // The VALUE of each ELEMENT: a number, the number of a THING, or NONE for NULL.
        private final long[] amounts = new long[MOST_ELEMENTS];
        // What the VALUE of a float or double can't tell whole.
        private final double[] reals = new double[MOST_ELEMENTS];
        private int things = 0;
        private int elements = 0;

        boolean isThing(int thing) {
            return thing >= 0 && thing < things;
        }

        boolean isArray(int thing) {
            return thing >= 0 && thing < things && lengths[thing] != NONE;
        }

        boolean hasElement(int thing, int i) {
            return isArray(thing) && i >= 0 && i < lengths[thing];
        }

        int typeOf(int thing) {
            return isThing(thing) ? types[thing] : NONE;
        }

        /** NONE of an INSTANCE. */
        int lengthOf(int thing) {
            return isThing(thing) ? lengths[thing] : NONE;
        }

        int typeOfElements(int thing) {
            return isArray(thing) ? types[thing] - Types.DIM : NONE;
        }

        boolean holdsNumbers(int thing) {
            return Types.isOfNumbers(typeOfElements(thing));
        }

        int kindAt(int thing, int i) {
            if (Types.isOfNumbers(typeOfElements(thing))) {
                return A_NUMBER;
            }
            return amountAt(thing, i) == NONE ? A_NULL : A_THING;
        }

        long amountAt(int thing, int i) {
            return hasElement(thing, i) ? amounts[starts[thing] + i] : 0;
        }

        double realAt(int thing, int i) {
            return hasElement(thing, i) ? reals[starts[thing] + i] : 0;
        }

        long bitsAt(int thing, int i) {
            switch (typeOfElements(thing)) {
                case Types.FLOAT:
                    return Numbers.floatBits(realAt(thing, i));
                case Types.DOUBLE:
                    return Numbers.doubleBits(realAt(thing, i));
                default:
                    return amountAt(thing, i);
            }
        }

        int thingsIn(int thing) {
            int found = 0;
            for (int i = 0; i < lengthOf(thing); i++) {
                if (kindAt(thing, i) == A_THING) {
                    found++;
                }
            }
            return found;
        }

        /** NONE: there is no room, here and in all that makes. */
        int makeInstance(int type) {
            return make(type, NONE, 0);
        }

        int makeArray(int type, int length) {
            if (length < 0 || length > MOST_ELEMENTS - elements) {
                return NONE;
            }
            int made = make(type, length, length);
            if (made != NONE && !Types.isOfNumbers(type - Types.DIM)) {
                for (int i = 0; i < length; i++) {
                    amounts[starts[made] + i] = NONE;
                }
            }
            return made;
        }

        /** NONE as a size: there are no more sizes. */
        int makeArrays(int type, int first, int second, int third) {
            if (!hasRoom(first, second, third)) {
                return NONE;
            }
            int made = makeArray(type, first);
            if (made != NONE && second != NONE) {
                for (int i = 0; i < first; i++) {
                    amounts[starts[made] + i] = makeWithin(type - Types.DIM, second, third);
                }
            }
            return made;
        }

        int makeCopy(int thing) {
            int made = makeArray(typeOf(thing), lengthOf(thing));
            if (made != NONE) {
                copyElements(starts[thing], starts[made], lengths[made]);
            }
            return made;
        }

        /** What PUT does once there is such an ELEMENT: the number with which it FAILS. */
        int put(int thing, int i, int kind, long amount) {
            if (!hasElement(thing, i)) {
                return Failure.NO_ELEMENT;
            }
            int type = typeOfElements(thing);
            if (Types.isOfNumbers(type) != (kind == A_NUMBER)) {
                return Failure.MISFIT;
            }
            if (kind == A_THING && !Types.isSub(typeOf((int) amount), type)) {
                return Failure.WRONG_THING;
            }
            int cell = starts[thing] + i;
            if (type == Types.FLOAT) {
                putReal(cell, (float) amount);
            } else if (type == Types.DOUBLE) {
                putReal(cell, (double) amount);
            } else {
                amounts[cell] = kind == A_NUMBER ? Numbers.cut(type, amount) : amount;
            }
            return Failure.NO_FAILURE;
        }

        /** The sum is that of an ELEMENT as it once was, so that it is told here. */
        void putSum(int thing, int i, long amount, double real, long more) {
            if (!hasElement(thing, i)) {
                return;
            }
            int cell = starts[thing] + i;
            int type = typeOfElements(thing);
            if (type == Types.FLOAT) {
                float sum = (float) real + (float) more;
                putReal(cell, sum);
            } else if (type == Types.DOUBLE) {
                putReal(cell, real + (double) more);
            } else {
                amounts[cell] = Numbers.cut(type, amount + more);
            }
        }

        /** What MOVE does once there are two ARRAYS: the number with which it FAILS. */
        int move(int from, int start, int to, int place, int count) {
            int type = typeOfElements(to);
            boolean numbers = Types.isOfNumbers(type);
            if (numbers != holdsNumbers(from) || numbers && type != typeOfElements(from)) {
                return Failure.WRONG_THING;
            }
            if (!hasElements(from, start, count) || !hasElements(to, place, count)) {
                return Failure.NO_ELEMENT;
            }
            int fitting = numbers ? count : countFitting(from, start, count, type);
            copyElements(starts[from] + start, starts[to] + place, fitting);
            return fitting == count ? Failure.NO_FAILURE : Failure.WRONG_THING;
        }

        private int countFitting(int from, int start, int count, int type) {
            for (int i = 0; i < count; i++) {
                int moved = (int) amountAt(from, start + i);
                if (moved != NONE && !Types.isSub(typeOf(moved), type)) {
                    return i;
                }
            }
            return count;
        }

        private boolean hasElements(int thing, int start, int count) {
            return isArray(thing) && start >= 0 && count >= 0 && (long) start + count <= lengths[thing];
        }

        private void copyElements(int from, int to, int count) {
            System.arraycopy(amounts, from, amounts, to, count);
            System.arraycopy(reals, from, reals, to, count);
        }

        private void putReal(int cell, double real) {
            reals[cell] = real;
            amounts[cell] = (long) real;
        }

        private int makeWithin(int type, int first, int second) {
            int made = makeArray(type, first);
            if (made != NONE && second != NONE) {
                for (int i = 0; i < first; i++) {
                    amounts[starts[made] + i] = makeArray(type - Types.DIM, second);
                }
            }
            return made;
        }

        // Each product is looked at before the next one, so that none of them goes round.
        private boolean hasRoom(int first, int second, int third) {
            long thingsLeft = MOST_THINGS - things - 1;
            long elementsLeft = MOST_ELEMENTS - elements - first;
            long inner = first;
            if (second != NONE && elementsLeft >= 0) {
                thingsLeft -= inner;
                inner *= second;
                elementsLeft -= inner;
            }
            if (third != NONE && elementsLeft >= 0) {
                thingsLeft -= inner;
                elementsLeft -= inner * third;
            }
            return thingsLeft >= 0 && elementsLeft >= 0;
        }

        private int make(int type, int length, int taken) {
            if (things >= MOST_THINGS) {
                return NONE;
            }
            types[things] = type;
            starts[things] = elements;
            lengths[things] = length;
            elements += taken;
            things++;
            return things - 1;
        }
    }

    /**
     * Works NODES. To work one answers whether it came to a VALUE, which then stands in kind and
     * amount; if it FAILED, failure and failedAt say how. A part has a lesser number than its
     * NODE, so that never more than 80 NODES stand open at once.
     */
    private static final class Worker {
        private final Program program;
        private final Heap heap;
        private final int[] variableKinds = new int[VARIABLES];
        private final long[] variableAmounts = new long[VARIABLES];
        private final int[] trace = new int[MOST_NOTES];
        // What VARIEDS hold until all their NODES are worked; an inner one's above an outer one's.
        private final int[] heldKinds = new int[MOST_HELD];
        private final long[] heldAmounts = new long[MOST_HELD];
        private int held = 0;
        private int kind = A_NUMBER;
        private long amount = 0;
        private int failure = Failure.NO_FAILURE;
        private int failedAt = NONE;
        private int nodesWorked = 0;
        private int noted = 0;
        private int catches = 0;

        Worker(Program program, Heap heap) {
            this.program = program;
            this.heap = heap;
        }

        int start(int node) {
            nodesWorked = 0;
            noted = 0;
            catches = 0;
            held = 0;
            failure = Failure.NO_FAILURE;
            failedAt = NONE;
            if (work(node, 1)) {
                return kind;
            }
            giveNumber(0);
            return -10 - failure;
        }

        int kept(int i) {
            return i >= 0 && i < noted && i < MOST_NOTES ? trace[i] : OUTSIDE;
        }

        private boolean work(int node, int depth) {
            if (!program.isNode(node) || depth > MOST_NODES) {
                return fail(Failure.ENDED, node);
            }
            if (program.isList(node)) {
                return fail(Failure.MISFIT, node);
            }
            if (nodesWorked >= MOST_WORKED) {
                return fail(Failure.ENDED, node);
            }
            nodesWorked++;
            switch (program.codes[node]) {
                case Code.NUMBER:
                    return giveNumber(program.a[node]);
                case Code.NULL:
                    return give(A_NULL, NONE);
                case Code.GET:
                    return giveVariable(program.a[node]);
                case Code.FAIL:
                    return fail(Failure.TOLD_TO, node);
                case Code.NEW:
                    return giveMade(node, heap.makeInstance(program.a[node]));
                case Code.MAKE:
                    return workMake(node, depth);
                case Code.FILLED:
                    return workFilled(node, depth);
                case Code.VARIED:
                    return workVaried(node, depth);
                case Code.AT:
                case Code.PUT:
                case Code.ADD:
                case Code.STEP:
                    return workAtPlace(node, depth);
                case Code.LENGTH:
                case Code.COPY:
                case Code.EACH:
                    return workWithArray(node, depth);
                case Code.MOVE:
                    return workMove(node, depth);
                case Code.PLUS:
                case Code.OVER:
                case Code.SAME:
                    return workTwo(node, depth);
                default:
                    return workFlow(node, depth);
            }
        }

        private boolean workFlow(int node, int depth) {
            switch (program.codes[node]) {
                case Code.SET:
                    return work(program.b[node], depth + 1) && setVariable(program.a[node], kind, amount);
                case Code.NOTE:
                    takeNote(program.a[node]);
                    return work(program.b[node], depth + 1);
                case Code.CAST:
                    return work(program.b[node], depth + 1) && cast(node);
                case Code.IS:
                    return work(program.b[node], depth + 1) && wantReference(node)
                        && giveTruth(isThingOf(program.a[node]));
                case Code.THEN:
                    return work(program.a[node], depth + 1) && work(program.b[node], depth + 1);
                case Code.IF:
                    return work(program.a[node], depth + 1) && wantNumber(node)
                        && work(amount != 0 ? program.b[node] : program.c[node], depth + 1);
                case Code.CATCH:
                    return work(program.a[node], depth + 1)
                        || takeFailure(node) && work(program.b[node], depth + 1);
                default:
                    return fail(Failure.MISFIT, node);
            }
        }

        private boolean workTwo(int node, int depth) {
            int code = program.codes[node];
            if (!work(program.a[node], depth + 1) || code != Code.SAME && !wantNumber(node)) {
                return false;
            }
            int firstKind = kind;
            long first = amount;
            if (!work(program.b[node], depth + 1) || code != Code.SAME && !wantNumber(node)) {
                return false;
            }
            if (code == Code.PLUS) {
                return giveNumber(first + amount);
            }
            if (code == Code.SAME) {
                return giveSame(node, firstKind, first);
            }
            return amount == 0 ? fail(Failure.OVER_ZERO, node) : giveNumber(first / amount);
        }

        private boolean workMake(int node, int depth) {
            if (!work(program.b[node], depth + 1) || !wantNumber(node)) {
                return false;
            }
            int first = (int) amount;
            int second = NONE;
            int third = NONE;
            boolean belowZero = first < 0;
            if (program.c[node] != NONE) {
                if (!work(program.c[node], depth + 1) || !wantNumber(node)) {
                    return false;
                }
                second = (int) amount;
                belowZero = belowZero || second < 0;
            }
            if (program.d[node] != NONE) {
                if (!work(program.d[node], depth + 1) || !wantNumber(node)) {
                    return false;
                }
                third = (int) amount;
                belowZero = belowZero || third < 0;
            }
            if (belowZero) {
                return fail(Failure.BELOW_ZERO, node);
            }
            return giveMade(node, heap.makeArrays(program.a[node], first, second, third));
        }

        private boolean workFilled(int node, int depth) {
            int list = program.b[node];
            int length = program.lengthOfList(list);
            int made = heap.makeArray(program.a[node], length);
            if (made == NONE) {
                return fail(Failure.NO_ROOM, node);
            }
            for (int i = 0; i < length; i++) {
                if (!work(program.nodeOfList(list, i), depth + 1) || !put(node, made, i)) {
                    return false;
                }
            }
            return give(A_THING, made);
        }

        private boolean workVaried(int node, int depth) {
            int list = program.b[node];
            int length = program.lengthOfList(list);
            int bottom = held;
            for (int i = 0; i < length; i++) {
                if (!work(program.nodeOfList(list, i), depth + 1) || !hold(node)) {
                    held = bottom;
                    return false;
                }
            }
            held = bottom;
            if (length == 1 && (kind == A_NULL || isThingOf(program.a[node]))) {
                return true;
            }
            return gather(node, bottom, length);
        }

        private boolean workAtPlace(int node, int depth) {
            if (!work(program.a[node], depth + 1) || !wantArrayOrNull(node)) {
                return false;
            }
            int array = (int) amount;
            if (!work(program.b[node], depth + 1) || !wantNumber(node)) {
                return false;
            }
            int i = (int) amount;
            int code = program.codes[node];
            if (code == Code.PUT && !work(program.c[node], depth + 1)) {
                return false;
            }
            if (!wantElement(node, array, i)) {
                return false;
            }
            switch (code) {
                case Code.PUT:
                    return put(node, array, i) && giveElement(array, i);
                case Code.ADD:
                    return workAdd(node, depth, array, i);
                case Code.STEP:
                    return step(node, array, i);
                default:
                    return giveElement(array, i);
            }
        }

        private boolean workAdd(int node, int depth, int array, int i) {
            if (!wantAddable(node, array)) {
                return false;
            }
            long before = heap.amountAt(array, i);
            double realBefore = heap.realAt(array, i);
            if (!work(program.c[node], depth + 1) || !wantNumber(node)) {
                return false;
            }
            heap.putSum(array, i, before, realBefore, amount);
            return giveElement(array, i);
        }

        private boolean workWithArray(int node, int depth) {
            if (!work(program.a[node], depth + 1) || !wantArrayOrNull(node)) {
                return false;
            }
            if (kind == A_NULL) {
                return fail(Failure.NULL_ARRAY, node);
            }
            int array = (int) amount;
            int length = heap.lengthOf(array);
            if (program.codes[node] == Code.COPY) {
                return giveMade(node, heap.makeCopy(array));
            }
            if (program.codes[node] == Code.EACH) {
                for (int i = 0; i < length; i++) {
                    setVariable(program.b[node], heap.kindAt(array, i), heap.amountAt(array, i));
                    if (!work(program.c[node], depth + 1)) {
                        return false;
                    }
                }
            }
            return giveNumber(length);
        }

        private boolean workMove(int node, int depth) {
            if (!work(program.a[node], depth + 1) || !wantArrayOrNull(node)) {
                return false;
            }
            int from = (int) amount;
            if (!work(program.b[node], depth + 1) || !wantNumber(node)) {
                return false;
            }
            int start = (int) amount;
            if (!work(program.c[node], depth + 1) || !wantArrayOrNull(node)) {
                return false;
            }
            int to = (int) amount;
            if (!work(program.nodeOfList(program.d[node], 0), depth + 1) || !wantNumber(node)) {
                return false;
            }
            int place = (int) amount;
            if (!work(program.nodeOfList(program.d[node], 1), depth + 1) || !wantNumber(node)) {
                return false;
            }
            int count = (int) amount;
            if (from == NONE || to == NONE) {
                return fail(Failure.NULL_ARRAY, node);
            }
            int moved = heap.move(from, start, to, place, count);
            return moved == Failure.NO_FAILURE ? giveNumber(count) : fail(moved, node);
        }

        private boolean fail(int number, int node) {
            failure = number;
            failedAt = node;
            return false;
        }

        private boolean takeFailure(int node) {
            if (failure == Failure.ENDED) {
                return false;
            }
            if (catches >= MOST_CATCHES) {
                return fail(Failure.ENDED, node);
            }
            catches++;
            setVariable(program.c[node], A_NUMBER, failure);
            failure = Failure.NO_FAILURE;
            failedAt = NONE;
            return true;
        }

        private void takeNote(int note) {
            if (noted < MOST_NOTES) {
                trace[noted] = note;
            }
            noted++;
        }

        private boolean setVariable(int variable, int newKind, long newAmount) {
            if (isVariable(variable)) {
                variableKinds[variable] = newKind;
                variableAmounts[variable] = newAmount;
            }
            return true;
        }

        private boolean hold(int node) {
            if (held >= MOST_HELD) {
                return fail(Failure.ENDED, node);
            }
            heldKinds[held] = kind;
            heldAmounts[held] = amount;
            held++;
            return true;
        }

        /** The ARRAY of a VARIED; no NODE is worked here, so that what it held still stands. */
        private boolean gather(int node, int bottom, int length) {
            int made = heap.makeArray(program.a[node], length);
            if (made == NONE) {
                return fail(Failure.NO_ROOM, node);
            }
            for (int i = 0; i < length && bottom + i < MOST_HELD; i++) {
                give(heldKinds[bottom + i], heldAmounts[bottom + i]);
                if (!put(node, made, i)) {
                    return false;
                }
            }
            return give(A_THING, made);
        }

        private boolean put(int node, int array, int i) {
            int number = heap.put(array, i, kind, amount);
            return number == Failure.NO_FAILURE || fail(number, node);
        }

        private boolean step(int node, int array, int i) {
            if (!wantAddable(node, array)) {
                return false;
            }
            giveNumber(heap.amountAt(array, i));
            heap.putSum(array, i, amount, heap.realAt(array, i), 1);
            return true;
        }

        private boolean cast(int node) {
            int type = program.a[node];
            if (Types.isOfNumbers(type) != (kind == A_NUMBER)) {
                return fail(Failure.MISFIT, node);
            }
            if (kind == A_NUMBER) {
                return giveNumber(Numbers.cut(type, amount));
            }
            return kind == A_NULL || isThingOf(type) || fail(Failure.WRONG_CAST, node);
        }

        private boolean isThingOf(int type) {
            return kind == A_THING && Types.isSub(heap.typeOf((int) amount), type);
        }

        private boolean wantNumber(int node) {
            return kind == A_NUMBER || fail(Failure.MISFIT, node);
        }

        private boolean wantReference(int node) {
            return kind != A_NUMBER || fail(Failure.MISFIT, node);
        }

        private boolean wantArrayOrNull(int node) {
            return kind == A_NULL || kind == A_THING && heap.isArray((int) amount)
                || fail(Failure.MISFIT, node);
        }

        private boolean wantElement(int node, int array, int i) {
            if (array == NONE) {
                return fail(Failure.NULL_ARRAY, node);
            }
            return heap.hasElement(array, i) || fail(Failure.NO_ELEMENT, node);
        }

        private boolean wantAddable(int node, int array) {
            boolean addable = heap.holdsNumbers(array) && heap.typeOfElements(array) != Types.BOOLEAN;
            return addable || fail(Failure.MISFIT, node);
        }

        private boolean give(int newKind, long newAmount) {
            kind = newKind;
            amount = newAmount;
            return true;
        }

        private boolean giveNumber(long number) {
            return give(A_NUMBER, number);
        }

        private boolean giveTruth(boolean truth) {
            return giveNumber(truth ? 1 : 0);
        }

        private boolean giveVariable(int variable) {
            return isVariable(variable)
                ? give(variableKinds[variable], variableAmounts[variable])
                : giveNumber(0);
        }

        private boolean giveElement(int array, int i) {
            return give(heap.kindAt(array, i), heap.amountAt(array, i));
        }

        private boolean giveMade(int node, int made) {
            return made == NONE ? fail(Failure.NO_ROOM, node) : give(A_THING, made);
        }

        private boolean giveSame(int node, int otherKind, long other) {
            if ((kind == A_NUMBER) != (otherKind == A_NUMBER)) {
                return fail(Failure.MISFIT, node);
            }
            return giveTruth(kind == otherKind && amount == other);
        }
    }
}
