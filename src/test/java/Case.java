import java.lang.reflect.InvocationTargetException;
import java.lang.reflect.Method;
import java.util.ArrayList;
import java.util.Arrays;
import java.util.Comparator;
import java.util.List;

/**
 * One boundary case: an object of its own, and the case's name on every answer that is not as due.
 * A case is a static method whose name begins with its promise: promise02_node_what_is_looked_at.
 */
final class Case {
    static final int NONE = ArrayRules.NONE, OUTSIDE = ArrayRules.OUTSIDE, ROOM = ArrayRules.ROOM;
    static final int NUMBER = 0, NULL = 1, THING = 2;

    final Teller t = new Teller();
    final ArrayRules rules = t.rules;
    private final Due due;
    private final String name;
    private int looked = 0;

    private Case(Due due, String name) {
        this.due = due;
        this.name = name;
    }

    /** Runs all cases of a class, by name: how many there are of each promise. */
    static int[] runAll(Due due, Class<?> cases) {
        int[] ofPromise = new int[17];
        Method[] methods = cases.getDeclaredMethods();
        Arrays.sort(methods, Comparator.comparing(Method::getName));
        for (Method method : methods) {
            if (method.getName().matches("promise\\d\\d_.*")) {
                ofPromise[Integer.parseInt(method.getName().substring(7, 9))]++;
                new Case(due, method.getName()).play(method);
            }
        }
        return ofPromise;
    }

    private void play(Method method) {
        try {
            method.setAccessible(true);
            method.invoke(null, this);
        } catch (InvocationTargetException thrown) {
            due.holds(name + ": threw " + thrown.getCause(), false);
        } catch (IllegalAccessException wrong) {
            due.holds(name + ": " + wrong, false);
        }
        due.holds(name + ": looked at something", looked > 0);
    }

    /** The same case on a new object. */
    Case another() {
        looked++;
        return new Case(due, name);
    }

    void is(String call, long got, long want) {
        looked++;
        due.is(name + ": " + call, got, want);
    }

    void comes(int node, int kind, long value) {
        is("run(" + node + ")", rules.run(node), kind);
        is("value()", rules.value(), value);
        is("where()", rules.where(), NONE);
    }

    void fails(int node, int number) {
        failsAt(node, number, node);
    }

    void failsAt(int node, int number, int where) {
        is("run(" + node + ")", rules.run(node), -10 - number);
        is("value()", rules.value(), 0);
        is("where()", rules.where(), where);
    }

    void noted(int... want) {
        is("notes()", rules.notes(), want.length);
        for (int i = 0; i < want.length; i++) {
            is("note(" + i + ")", rules.note(i), want[i]);
        }
    }

    void elements(int thing, long... want) {
        is("thing(" + thing + ", 1)", rules.thing(thing, 1), want.length);
        for (int i = 0; i < want.length; i++) {
            is("element(" + thing + ", " + i + ")", rules.element(thing, i), want[i]);
        }
    }

    void told(int things, int elements) {
        is("told(1)", rules.told(1), things);
        is("told(2)", rules.told(2), elements);
    }

    /** Runs a NODE whose THING is kept in a VARIABLE: a NODE that gets it. */
    int keep(int variable, int node) {
        is("run of what is kept", rules.run(t.set(variable, node)), THING);
        return t.get(variable);
    }

    /** A VARIABLE becomes a number of 64 bits; before a case tells NODES, for there are none then. */
    void wide(int variable, long number) {
        int low = (int) number;
        int get = t.get(variable);
        int half = t.number(low >>> 1);
        int twice = t.set(variable, t.plus(get, get));
        int last = t.set(variable, t.plus(get, t.plus(half, t.plus(half, t.number(low & 1)))));
        rules.run(t.set(variable, t.number((int) (number >> 32))));
        for (int i = 0; i < 32; i++) {
            rules.run(twice);
        }
        rules.run(last);
        rules.clear();
        is("get(" + variable + ")", rules.get(variable), number);
    }

    /** All that can be seen of the object, for a call after which nothing is to be changed. */
    List<Long> state() {
        List<Long> seen = new ArrayList<>();
        seen.add(rules.value());
        seen.add((long) rules.where());
        seen.add((long) rules.worked());
        seen.add((long) rules.notes());
        for (int i = 0; i < rules.notes() && i < 256; i++) {
            seen.add((long) rules.note(i));
        }
        for (int i = 0; i < 8; i++) {
            seen.add((long) rules.has(i));
            seen.add(rules.get(i));
        }
        for (int i = 0; i < 3; i++) {
            seen.add((long) rules.told(i));
        }
        for (int thing = 0; thing < rules.told(1); thing++) {
            seen.add((long) rules.thing(thing, 0));
            seen.add((long) rules.thing(thing, 1));
            for (int i = 0; i < rules.thing(thing, 1); i++) {
                seen.add(rules.element(thing, i));
                seen.add(rules.bits(thing, i));
            }
        }
        return seen;
    }

    void unchanged(String since, List<Long> before) {
        is("nothing changed by " + since, state().equals(before) ? 1 : 0, 1);
    }

    void nodeRefused(int answer, int code, int a, int b, int c, int d) {
        String call = "node(" + code + ", " + a + ", " + b + ", " + c + ", " + d + ")";
        List<Long> before = state();
        is(call, rules.node(code, a, b, c, d), answer);
        unchanged(call, before);
    }

    void nodeTaken(int code, int a, int b, int c, int d) {
        int next = rules.told(0);
        is("node(" + code + ", " + a + ", " + b + ", " + c + ", " + d + ")", rules.node(code, a, b, c, d), next);
        is("told(0)", rules.told(0), next + 1);
    }

    void runRefused(int node) {
        List<Long> before = state();
        is("run(" + node + ")", rules.run(node), OUTSIDE);
        unchanged("run(" + node + ")", before);
    }

    /** As many NODES as are needed until there are so many. */
    void fillNodes(int count) {
        while (rules.told(0) < count) {
            t.number(0);
        }
    }
}
