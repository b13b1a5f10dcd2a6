import java.lang.reflect.Array;
import java.util.ArrayList;
import java.util.IdentityHashMap;
import java.util.List;
import java.util.Map;

/**
 * The same face, worked by the Java machine's own arrays, classes, stores, casts and copies:
 * what ArrayRules tests by itself is left to the machine here. VALUES are Long, null, or a THING.
 */
final class Oracle {
    interface Named { }

    static class Root implements Named { }

    static final class Leaf extends Root { }

    static final class Fails extends RuntimeException {
        private static final long serialVersionUID = 1L;
        final int number;
        final int node;

        Fails(int number, int node) {
            super(null, null, false, false);
            this.number = number;
            this.node = node;
        }
    }

    private static final Class<?>[] BASES = {
        boolean.class, byte.class, char.class, short.class, int.class, long.class, float.class, double.class,
        Object.class, Named.class, Root.class, Leaf.class,
    };

    private final List<int[]> nodes = new ArrayList<>();
    private final List<Object> things = new ArrayList<>();
    private final Map<Object, Integer> numbers = new IdentityHashMap<>();
    private final Object[] variables = {0L, 0L, 0L, 0L, 0L, 0L, 0L, 0L};
    private final List<Integer> trace = new ArrayList<>();
    private int elements = 0;
    private Object result = 0L;
    private int where = -1;
    private int worked = 0;
    private int catches = 0;

    /** How often each CODE failed with each number: says what a test has reached. */
    final int[][] reached = new int[27][11];

    static Class<?> classOf(int type) {
        if (type < 0 || type > 63 || type % 16 > 11) {
            return null;
        }
        Class<?> of = BASES[type % 16];
        for (int dim = 0; dim < type / 16; dim++) {
            of = of.arrayType();
        }
        return of;
    }

    private static int typeOf(Class<?> of) {
        for (int type = 0; type < 64; type++) {
            if (of == classOf(type)) {
                return type;
            }
        }
        throw new IllegalStateException("no type: " + of);
    }

    int node(int code, int a, int b, int c, int d) {
        boolean fits;
        boolean na = isNode(a);
        boolean nb = isNode(b);
        boolean nc = isNode(c);
        boolean va = a >= 0 && a <= 7;
        Class<?> type = classOf(a);
        boolean arrays = type != null && type.isArray();
        switch (code) {
            case 0: case 1: case 5: fits = true; break;
            case 2: fits = va; break;
            case 3: fits = va && nb; break;
            case 4: fits = nb; break;
            case 6: case 7: case 13: case 16: case 20: case 23: fits = na && nb; break;
            case 8: fits = type == Object.class || type == Root.class || type == Leaf.class; break;
            case 9: fits = arrays && sizes(a / 16, b, c, d); break;
            case 10: fits = (a == -1 || isList(a)) && nb; break;
            case 11: case 22: fits = arrays && (b == -1 || isList(b)); break;
            case 12: case 17: fits = na; break;
            case 14: case 15: case 24: fits = na && nb && nc; break;
            case 18: fits = type != null && nb; break;
            case 19: fits = type != null && !type.isPrimitive() && nb; break;
            case 21: fits = na && b >= 0 && b <= 7 && nc; break;
            case 25: fits = na && nb && c >= 0 && c <= 7; break;
            case 26: fits = na && nb && nc && isList(d) && listed(d).size() == 2; break;
            default: fits = false;
        }
        if (!fits) {
            return -2;
        }
        if (nodes.size() == 80) {
            return -3;
        }
        nodes.add(new int[] {code, a, b, c, d});
        return nodes.size() - 1;
    }

    private boolean sizes(int dims, int... parts) {
        int sizes = 0;
        while (sizes < 3 && isNode(parts[sizes])) {
            sizes++;
        }
        for (int i = sizes; i < 3; i++) {
            if (parts[i] != -1) {
                return false;
            }
        }
        return sizes >= 1 && sizes <= dims;
    }

    private boolean isNode(int node) {
        return node >= 0 && node < nodes.size();
    }

    boolean isList(int node) {
        return isNode(node) && nodes.get(node)[0] == 10;
    }

    private List<Integer> listed(int list) {
        List<Integer> of = new ArrayList<>();
        for (int at = list; at != -1; at = nodes.get(at)[1]) {
            of.add(0, nodes.get(at)[2]);
        }
        return of;
    }

    int clear() {
        int before = nodes.size();
        nodes.clear();
        return before;
    }

    int run(int node) {
        if (!isNode(node)) {
            return -2;
        }
        trace.clear();
        worked = 0;
        catches = 0;
        where = -1;
        try {
            result = work(node);
            return kind(result);
        } catch (Fails fails) {
            result = 0L;
            where = fails.node;
            return -10 - fails.number;
        }
    }

    private static int kind(Object value) {
        return value instanceof Long ? 0 : value == null ? 1 : 2;
    }

    private long told(Object value) {
        return value instanceof Long ? (Long) value : value == null ? -1 : numbers.get(value);
    }

    private Fails fails(int number, int node) {
        reached[nodes.get(node)[0]][number]++;
        return new Fails(number, node);
    }

    private long number(int part, int node) {
        Object value = work(part);
        if (!(value instanceof Long)) {
            throw fails(9, node);
        }
        return (Long) value;
    }

    private Object reference(int part, int node) {
        Object value = work(part);
        if (value instanceof Long) {
            throw fails(9, node);
        }
        return value;
    }

    private Object array(int part, int node) {
        Object value = work(part);
        if (value != null && !value.getClass().isArray()) {
            throw fails(9, node);
        }
        return value;
    }

    private Object arrayNotNull(int part, int node) {
        Object value = array(part, node);
        if (value == null) {
            throw fails(1, node);
        }
        return value;
    }

    private Object work(int n) {
        int[] node = nodes.get(n);
        int a = node[1];
        int b = node[2];
        int c = node[3];
        if (node[0] == 10) {
            throw fails(9, n);
        }
        if (worked == 3000) {
            throw fails(10, n);
        }
        worked++;
        switch (node[0]) {
            case 0: return (long) a;
            case 1: return null;
            case 2: return variables[a];
            case 3: return variables[a] = work(b);
            case 4: trace.add(a); return work(b);
            case 5: throw fails(7, n);
            case 6: return number(a, n) + number(b, n);
            case 7: return over(number(a, n), number(b, n), n);
            case 8: return instance(a, n);
            case 9: return make(node, n);
            case 11: return filled(a, b, n);
            case 12: return (long) Array.getLength(arrayNotNull(a, n));
            case 13: return at(array(a, n), (int) number(b, n), n);
            case 14: {
                Object x = array(a, n);
                int y = (int) number(b, n);
                Object z = work(c);
                at(x, y, n);
                return put(x, y, z, n);
            }
            case 15: return add(array(a, n), (int) number(b, n), c, n);
            case 16: {
                Object x = array(a, n);
                int y = (int) number(b, n);
                Object before = at(x, y, n);
                addable(x, n);
                sum(x, y, Array.get(x, y), 1L);
                return before;
            }
            case 17: return copy(arrayNotNull(a, n), n);
            case 18: return cast(classOf(a), work(b), n);
            case 19: return classOf(a).isInstance(reference(b, n)) ? 1L : 0L;
            case 20: return same(work(a), work(b), n);
            case 21: return each(arrayNotNull(a, n), b, c);
            case 22: return varied(a, b, n);
            case 23: work(a); return work(b);
            case 24: return number(a, n) != 0 ? work(b) : work(c);
            case 25: return caught(a, b, c, n);
            case 26: return move(node, n);
            default: throw new IllegalStateException("code " + node[0]);
        }
    }

    private long over(long x, long y, int n) {
        try {
            return x / y;
        } catch (ArithmeticException zero) {
            throw fails(8, n);
        }
    }

    private void room(long moreThings, long moreElements, int n) {
        if (things.size() + moreThings > 400 || elements + moreElements > 4000) {
            throw fails(6, n);
        }
    }

    private Object keep(Object made) {
        numbers.put(made, things.size());
        things.add(made);
        if (made.getClass().isArray()) {
            elements += Array.getLength(made);
        }
        return made;
    }

    private Object instance(int type, int n) {
        room(1, 0, n);
        return keep(type == 8 ? new Object() : type == 10 ? new Root() : new Leaf());
    }

    private Object make(int[] node, int n) {
        int count = 0;
        int[] sizes = new int[3];
        while (count < 3 && node[2 + count] != -1) {
            sizes[count] = (int) number(node[2 + count], n);
            count++;
        }
        double moreThings = 1;
        double moreElements = 0;
        double within = 1;
        for (int i = 0; i < count; i++) {
            if (sizes[i] < 0) {
                throw fails(4, n);
            }
        }
        for (int i = 0; i < count; i++) {
            within *= sizes[i];
            moreElements += within;
            moreThings += i + 1 < count ? within : 0;
        }
        room((long) Math.min(1e6, moreThings), (long) Math.min(1e6, moreElements), n);
        Class<?> inner = classOf(node[1] - 16 * count);
        Object made = Array.newInstance(inner, java.util.Arrays.copyOf(sizes, count));
        keepAll(made, count);
        return made;
    }

    private void keepAll(Object made, int levels) {
        keep(made);
        if (levels > 1) {
            for (Object inner : (Object[]) made) {
                keepAll(inner, levels - 1);
            }
        }
    }

    private Object filled(int type, int list, int n) {
        List<Integer> of = listed(list);
        room(1, of.size(), n);
        Object made = keep(Array.newInstance(classOf(type - 16), of.size()));
        for (int i = 0; i < of.size(); i++) {
            put(made, i, work(of.get(i)), n);
        }
        return made;
    }

    private Object varied(int type, int list, int n) {
        List<Object> values = new ArrayList<>();
        for (int part : listed(list)) {
            values.add(work(part));
        }
        if (values.size() == 1 && (values.get(0) == null || classOf(type).isInstance(values.get(0)))) {
            return values.get(0);
        }
        room(1, values.size(), n);
        Object made = keep(Array.newInstance(classOf(type - 16), values.size()));
        for (int i = 0; i < values.size(); i++) {
            put(made, i, values.get(i), n);
        }
        return made;
    }

    /** The VALUE of an ELEMENT, after the tests that AT, PUT, ADD and STEP have in common. */
    private Object at(Object array, int i, int n) {
        try {
            return valueOf(Array.get(array, i));
        } catch (NullPointerException isNull) {
            throw fails(1, n);
        } catch (ArrayIndexOutOfBoundsException none) {
            throw fails(2, n);
        }
    }

    private static Object valueOf(Object element) {
        if (element instanceof Boolean) {
            return (Boolean) element ? 1L : 0L;
        }
        if (element instanceof Character) {
            return (long) (Character) element;
        }
        return element instanceof Number ? (Object) ((Number) element).longValue() : element;
    }

    private Object put(Object array, int i, Object value, int n) {
        boolean primitive = array.getClass().getComponentType().isPrimitive();
        if (primitive != (value instanceof Long)) {
            throw fails(9, n);
        }
        if (primitive) {
            Array.set(array, i, cut(array.getClass().getComponentType(), (Long) value));
        } else {
            try {
                ((Object[]) array)[i] = value;
            } catch (ArrayStoreException wrong) {
                throw fails(3, n);
            }
        }
        return valueOf(Array.get(array, i));
    }

    private static Object cut(Class<?> base, long number) {
        switch (base.getName()) {
            case "boolean": return number != 0;
            case "byte": return (byte) number;
            case "char": return (char) number;
            case "short": return (short) number;
            case "int": return (int) number;
            case "long": return number;
            case "float": return (float) number;
            default: return (double) number;
        }
    }

    private void addable(Object array, int n) {
        Class<?> base = array.getClass().getComponentType();
        if (!base.isPrimitive() || base == boolean.class) {
            throw fails(9, n);
        }
    }

    private Object add(Object array, int i, int z, int n) {
        at(array, i, n);
        addable(array, n);
        Object before = Array.get(array, i);
        sum(array, i, before, number(z, n));
        return valueOf(Array.get(array, i));
    }

    private static void sum(Object array, int i, Object before, long more) {
        if (array instanceof float[]) {
            ((float[]) array)[i] = (Float) before + (float) more;
        } else if (array instanceof double[]) {
            ((double[]) array)[i] = (Double) before + (double) more;
        } else {
            long sum = (Long) valueOf(before) + more;
            Array.set(array, i, cut(array.getClass().getComponentType(), sum));
        }
    }

    private Object copy(Object array, int n) {
        int length = Array.getLength(array);
        room(1, length, n);
        Object made = Array.newInstance(array.getClass().getComponentType(), length);
        System.arraycopy(array, 0, made, 0, length);
        return keep(made);
    }

    private Object cast(Class<?> type, Object value, int n) {
        if (type.isPrimitive() != (value instanceof Long)) {
            throw fails(9, n);
        }
        if (value instanceof Long) {
            return valueOf(cut(type, (Long) value));
        }
        try {
            return type.cast(value);
        } catch (ClassCastException wrong) {
            throw fails(5, n);
        }
    }

    private Object same(Object x, Object y, int n) {
        if (x instanceof Long != y instanceof Long) {
            throw fails(9, n);
        }
        return (x instanceof Long ? x.equals(y) : x == y) ? 1L : 0L;
    }

    private Object each(Object array, int variable, int z) {
        for (int i = 0; i < Array.getLength(array); i++) {
            variables[variable] = valueOf(Array.get(array, i));
            work(z);
        }
        return (long) Array.getLength(array);
    }

    private Object caught(int x, int y, int variable, int n) {
        try {
            return work(x);
        } catch (Fails fails) {
            if (fails.number == 10) {
                throw fails;
            }
            if (catches == 40) {
                throw fails(10, n);
            }
            catches++;
            variables[variable] = (long) fails.number;
        }
        return work(y);
    }

    private Object move(int[] node, int n) {
        Object x = array(node[1], n);
        int y = (int) number(node[2], n);
        Object z = array(node[3], n);
        List<Integer> parts = listed(node[4]);
        int p = (int) number(parts.get(0), n);
        int count = (int) number(parts.get(1), n);
        try {
            System.arraycopy(x, y, z, p, count);
        } catch (NullPointerException isNull) {
            throw fails(1, n);
        } catch (ArrayStoreException wrong) {
            throw fails(3, n);
        } catch (IndexOutOfBoundsException none) {
            throw fails(2, n);
        }
        return (long) count;
    }

    long value() {
        return told(result);
    }

    int where() {
        return where;
    }

    int worked() {
        return worked;
    }

    int notes() {
        return trace.size();
    }

    int note(int i) {
        return i >= 0 && i < Math.min(256, trace.size()) ? trace.get(i) : -2;
    }

    int has(int variable) {
        return variable >= 0 && variable <= 7 ? kind(variables[variable]) : -2;
    }

    long get(int variable) {
        return variable >= 0 && variable <= 7 ? told(variables[variable]) : 0;
    }

    int thing(int thing, int what) {
        if (thing < 0 || thing >= things.size() || what < 0 || what > 2) {
            return -2;
        }
        Object of = things.get(thing);
        if (what == 0) {
            return typeOf(of.getClass());
        }
        if (what == 1) {
            return of.getClass().isArray() ? Array.getLength(of) : -1;
        }
        int count = 0;
        if (of instanceof Object[]) {
            for (Object element : (Object[]) of) {
                count += element != null ? 1 : 0;
            }
        }
        return count;
    }

    private boolean hasElement(int thing, int i) {
        return thing >= 0 && thing < things.size() && things.get(thing).getClass().isArray()
            && i >= 0 && i < Array.getLength(things.get(thing));
    }

    long element(int thing, int i) {
        return hasElement(thing, i) ? told(valueOf(Array.get(things.get(thing), i))) : 0;
    }

    long bits(int thing, int i) {
        if (hasElement(thing, i) && things.get(thing) instanceof float[]) {
            return Float.floatToRawIntBits(((float[]) things.get(thing))[i]);
        }
        if (hasElement(thing, i) && things.get(thing) instanceof double[]) {
            return Double.doubleToRawLongBits(((double[]) things.get(thing))[i]);
        }
        return element(thing, i);
    }

    int sub(int type, int other) {
        Class<?> own = classOf(type);
        Class<?> wanted = classOf(other);
        return own == null || wanted == null ? -2 : wanted.isAssignableFrom(own) ? 1 : 0;
    }

    int told(int what) {
        return what == 0 ? nodes.size() : what == 1 ? things.size() : what == 2 ? elements : -2;
    }
}
