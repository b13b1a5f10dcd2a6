/** How the NODE of each CODE is worked and FAILS, and in which order. */
public final class CodesTest {
    private static final int NONE = ArrayRules.NONE;
    private static final Due DUE = new Due("CodesTest");

    public static void main(String[] args) {
        arithmetic();
        make();
        makeOrder();
        filled();
        lengthAndAt();
        put();
        putOrder();
        putCuts();
        add();
        addOrder();
        step();
        reals();
        copy();
        cast();
        is();
        same();
        each();
        varied();
        flow();
        caught();
        move();
        moveFails();
        lists();
        DUE.end();
    }

    private static void comes(String what, Teller t, int node, int kind, long value) {
        DUE.is(what + ": run", t.rules.run(node), kind);
        DUE.is(what + ": value()", t.rules.value(), value);
        DUE.is(what + ": where()", t.rules.where(), NONE);
    }

    private static void fails(String what, Teller t, int node, int number) {
        failsAt(what, t, node, number, node);
    }

    private static void failsAt(String what, Teller t, int node, int number, int where) {
        DUE.is(what + ": run", t.rules.run(node), -10 - number);
        DUE.is(what + ": value()", t.rules.value(), 0);
        DUE.is(what + ": where()", t.rules.where(), where);
    }

    private static void noted(String what, Teller t, int... due) {
        DUE.is(what + ": notes()", t.rules.notes(), due.length);
        for (int i = 0; i < due.length; i++) {
            DUE.is(what + ": note(" + i + ")", t.rules.note(i), due[i]);
        }
    }

    private static void elements(String what, Teller t, int thing, long... due) {
        DUE.is(what + ": LENGTH of " + thing, t.rules.thing(thing, 1), due.length);
        for (int i = 0; i < due.length; i++) {
            DUE.is(what + ": element(" + thing + ", " + i + ")", t.rules.element(thing, i), due[i]);
        }
    }

    private static void arithmetic() {
        Teller t = new Teller();
        int seven = t.number(7);
        int nul = t.nul();
        comes("NUMBER", t, t.number(Integer.MIN_VALUE), 0, Integer.MIN_VALUE);
        comes("NULL", t, nul, 1, NONE);
        comes("NEW", t, t.instance(8), 2, 0);
        comes("PLUS", t, t.plus(seven, t.number(-9)), 0, -2);
        comes("OVER", t, t.over(t.number(-7), t.number(2)), 0, -3);
        comes("OVER", t, t.over(seven, t.number(-2)), 0, -3);
        fails("OVER 0", t, t.over(seven, t.number(0)), 8);
        fails("PLUS of NULL", t, t.plus(t.note(1, nul), t.note(2, seven)), 9);
        noted("PLUS of NULL", t, 1);
        fails("PLUS and NULL", t, t.plus(t.note(1, seven), t.note(2, nul)), 9);
        noted("PLUS and NULL", t, 1, 2);
        fails("OVER of a THING", t, t.over(t.instance(10), t.fail()), 9);
        fails("OVER NULL", t, t.over(seven, nul), 9);
        int least = t.big(Integer.MIN_VALUE, 32);
        comes("OVER goes round", t, t.over(least, t.number(-1)), 0, Long.MIN_VALUE);
        comes("PLUS goes round", t, t.plus(least, t.number(-1)), 0, Long.MAX_VALUE);
    }

    private static void make() {
        Teller t = new Teller();
        int two = t.number(2);
        comes("MAKE", t, t.make(48 + 4, two, t.number(3), t.number(1)), 2, 0);
        DUE.is("MAKE: THINGS", t.rules.told(1), 9);
        DUE.is("MAKE: ELEMENTS", t.rules.told(2), 2 + 6 + 6);
        elements("MAKE", t, 0, 1, 5);
        elements("MAKE", t, 1, 2, 3, 4);
        elements("MAKE", t, 5, 6, 7, 8);
        elements("MAKE", t, 8, 0);
        DUE.is("MAKE: type", t.rules.thing(0, 0), 52);
        DUE.is("MAKE: type", t.rules.thing(5, 0), 36);
        DUE.is("MAKE: type", t.rules.thing(8, 0), 20);
        comes("MAKE of references", t, t.make(27, two), 2, 9);
        elements("MAKE of references", t, 9, NONE, NONE);
        comes("MAKE with fewer sizes", t, t.make(52, two, two), 2, 10);
        elements("MAKE with fewer sizes", t, 10, 11, 12);
        elements("MAKE with fewer sizes", t, 12, NONE, NONE);
        comes("MAKE of none", t, t.make(36, t.number(0), t.number(Integer.MAX_VALUE)), 2, 13);
        elements("MAKE of none", t, 13);
        int wide = t.big(1, 32);
        comes("MAKE with a size cut to int", t, t.make(20, t.plus(wide, two)), 2, 14);
        elements("MAKE with a size cut to int", t, 14, 0, 0);
    }

    private static void makeOrder() {
        Teller t = new Teller();
        int minus = t.note(1, t.number(-1));
        int great = t.note(2, t.number(Integer.MAX_VALUE));
        int nul = t.note(3, t.nul());
        fails("MAKE below 0", t, t.make(52, minus, great, minus), 4);
        noted("MAKE below 0", t, 1, 2, 1);
        fails("MAKE below 0 behind no room", t, t.make(52, great, great, minus), 4);
        fails("MAKE without room", t, t.make(52, great, great, great), 6);
        noted("MAKE without room", t, 2, 2, 2);
        fails("MAKE with NULL", t, t.make(52, minus, nul, great), 9);
        noted("MAKE with NULL", t, 1, 3);
        int fine = t.note(4, t.number(1));
        fails("MAKE with only the second below 0", t, t.make(52, fine, minus, fine), 4);
        fails("MAKE with only the third below 0", t, t.make(52, fine, fine, minus), 4);
        fails("MAKE with NULL first", t, t.make(52, nul, fine, fine), 9);
        noted("MAKE with NULL first", t, 3);
        fails("MAKE with NULL last", t, t.make(52, fine, fine, nul), 9);
        int fail = t.fail();
        failsAt("MAKE with what FAILS", t, t.make(52, minus, great, fail), 7, fail);
        DUE.is("MAKE: THINGS", t.rules.told(1), 0);
        int inSize = t.length(t.make(20, t.number(2)));
        comes("MAKE with a MAKE as a size", t, t.make(36, inSize, inSize), 2, 2);
        elements("MAKE with a MAKE as a size", t, 2, 3, 4);
    }

    private static void filled() {
        Teller t = new Teller();
        int leaf = t.instance(11);
        int nul = t.nul();
        comes("FILLED", t, t.filled(26, t.note(1, leaf), t.note(2, nul)), 2, 0);
        noted("FILLED", t, 1, 2);
        elements("FILLED", t, 0, 1, NONE);
        comes("FILLED of none", t, t.filled(20), 2, 2);
        elements("FILLED of none", t, 2);
        comes("FILLED of bytes", t, t.filled(17, t.number(300), t.number(-129)), 2, 3);
        elements("FILLED of bytes", t, 3, 44, 127);
        fails("FILLED with a wrong THING", t, t.filled(27, leaf, t.instance(10), t.fail()), 3);
        elements("FILLED with a wrong THING", t, 4, 5, NONE, NONE);
        fails("FILLED with a number", t, t.filled(24, leaf, t.number(1)), 9);
        fails("FILLED with NULL among numbers", t, t.filled(20, t.number(6), nul), 9);
        elements("FILLED with NULL among numbers", t, 9, 6, 0);
        int inner = t.filled(20, t.number(5));
        comes("FILLED with ARRAYS", t, t.filled(36, inner, inner), 2, 10);
        elements("FILLED with ARRAYS", t, 10, 11, 12);
    }

    private static void lengthAndAt() {
        Teller t = new Teller();
        int nul = t.nul();
        int one = t.number(1);
        int array = t.filled(21, t.number(8), t.number(9));
        comes("LENGTH", t, t.length(array), 0, 2);
        fails("LENGTH of NULL", t, t.length(nul), 1);
        fails("LENGTH of a number", t, t.length(one), 9);
        fails("LENGTH of an INSTANCE", t, t.length(t.instance(8)), 9);
        comes("AT", t, t.at(array, one), 0, 9);
        comes("AT cut to int", t, t.at(array, t.plus(t.big(1, 32), one)), 0, 9);
        fails("AT behind the last", t, t.at(array, t.number(2)), 2);
        fails("AT ahead of the first", t, t.at(array, t.number(-1)), 2);
        fails("AT is not cut to less than int", t, t.at(array, t.number(65536)), 2);
        fails("AT of NULL", t, t.at(nul, t.note(1, one)), 1);
        noted("AT of NULL", t, 1);
        fails("AT of a number", t, t.at(one, t.note(1, one)), 9);
        noted("AT of a number", t);
        fails("AT of an INSTANCE", t, t.at(t.instance(8), t.fail()), 9);
        fails("AT with NULL, of NULL", t, t.at(nul, nul), 9);
        comes("AT of references", t, t.at(t.make(24, one), t.number(0)), 1, NONE);
    }

    private static void put() {
        Teller t = new Teller();
        int zero = t.number(0);
        int one = t.number(1);
        int objects = t.get(0);
        t.rules.run(t.set(0, t.make(26, t.number(2))));
        comes("PUT of a THING", t, t.put(objects, one, t.instance(11)), 2, 1);
        elements("PUT of a THING", t, 0, NONE, 1);
        comes("PUT of NULL", t, t.put(objects, one, t.nul()), 1, NONE);
        elements("PUT of NULL", t, 0, NONE, NONE);
        fails("PUT of a wrong THING", t, t.put(objects, zero, t.instance(8)), 3);
        fails("PUT of an ARRAY", t, t.put(objects, zero, t.make(27, zero)), 3);
        fails("PUT of a number", t, t.put(objects, zero, one), 9);
        int numbers = t.make(20, one);
        fails("PUT of NULL among numbers", t, t.put(numbers, zero, t.nul()), 9);
        fails("PUT of a THING among numbers", t, t.put(numbers, zero, t.instance(8)), 9);
        int all = t.set(1, t.make(24, one));
        comes("PUT of an ARRAY into itself", t, t.put(all, zero, t.get(1)), 2, 7);
        elements("PUT of an ARRAY into itself", t, 7, 7);
        comes("PUT into a SUB type's ELEMENTS", t, t.put(t.make(40, one, one), zero, t.make(27, one)), 2, 10);
    }

    private static void putOrder() {
        Teller t = new Teller();
        int nul = t.note(1, t.nul());
        int far = t.note(2, t.number(5));
        int thing = t.note(3, t.instance(8));
        int numbers = t.note(4, t.make(20, t.number(1)));
        fails("PUT into NULL", t, t.put(nul, far, thing), 1);
        noted("PUT into NULL", t, 1, 2, 3);
        fails("PUT at no ELEMENT", t, t.put(numbers, far, thing), 2);
        noted("PUT at no ELEMENT", t, 4, 2, 3);
        fails("PUT into a number", t, t.put(far, far, thing), 9);
        noted("PUT into a number", t, 2);
        fails("PUT into an INSTANCE", t, t.put(thing, far, far), 9);
        noted("PUT into an INSTANCE", t, 3);
        fails("PUT at NULL", t, t.put(numbers, nul, far), 9);
        noted("PUT at NULL", t, 4, 1);
        int fail = t.fail();
        failsAt("PUT of what FAILS", t, t.put(nul, far, fail), 7, fail);
    }

    private static void putCuts() {
        Teller t = new Teller();
        int zero = t.number(0);
        int one = t.number(1);
        int wide = t.plus(t.big(-70000, 20), t.number(-129));
        long number = ((long) -70000 << 20) - 129;
        long[] due = {
            1, (byte) number, (char) number, (short) number, (int) number, number, (long) (float) number, number,
        };
        for (int base = 0; base < 8; base++) {
            comes("PUT into BASE " + base, t, t.put(t.make(16 + base, one), zero, wide), 0, due[base]);
            elements("PUT into BASE " + base, t, base, due[base]);
        }
        comes("PUT of 0 into boolean", t, t.put(t.make(16, one), zero, zero), 0, 0);
    }

    private static void add() {
        for (int base = 1; base < 8; base++) {
            Teller t = new Teller();
            int zero = t.number(0);
            t.rules.run(t.set(0, t.filled(16 + base, t.number(100))));
            int array = t.get(0);
            long[] due = {0, -56, 200, 200, 200, 200, 200, 200};
            comes("ADD to BASE " + base, t, t.add(array, zero, t.number(100)), 0, due[base]);
            elements("ADD to BASE " + base, t, 0, due[base]);
        }
        Teller t = new Teller();
        int zero = t.number(0);
        t.rules.run(t.set(0, t.filled(20, t.number(10))));
        int array = t.get(0);
        int inner = t.then(t.put(array, zero, t.number(50)), t.number(3));
        comes("ADD to the ELEMENT as it was", t, t.add(array, zero, inner), 0, 13);
        elements("ADD to the ELEMENT as it was", t, 0, 13);
        comes("ADD within an index", t, t.at(array, t.plus(t.add(array, zero, t.number(1)), t.number(-14))), 0, 14);
        for (int base = 4; base < 8; base++) {
            t.rules.run(t.set(base, t.filled(16 + base, t.number(4), t.number(5), t.number(6))));
            comes("ADD at 1", t, t.add(t.get(base), t.number(1), t.number(30)), 0, 35);
            elements("ADD at 1", t, base - 3, 4, 35, 6);
        }
        t.rules.run(t.set(0, t.filled(18, zero)));
        comes("ADD to char goes round", t, t.add(array, zero, t.number(-1)), 0, 65535);
    }

    private static void addOrder() {
        Teller t = new Teller();
        int nul = t.note(1, t.nul());
        int far = t.note(2, t.number(1));
        int zero = t.number(0);
        int z = t.note(3, t.number(1));
        fails("ADD to NULL", t, t.add(nul, far, z), 1);
        noted("ADD to NULL", t, 1, 2);
        fails("ADD at no ELEMENT", t, t.add(t.make(24, far), far, z), 2);
        noted("ADD at no ELEMENT", t, 2, 2);
        fails("ADD to references", t, t.add(t.make(24, far), zero, z), 9);
        noted("ADD to references", t, 2);
        fails("ADD to booleans", t, t.add(t.make(16, far), zero, z), 9);
        noted("ADD to booleans", t, 2);
        int array = t.set(0, t.filled(20, t.number(4)));
        fails("ADD of NULL", t, t.add(array, zero, nul), 9);
        noted("ADD of NULL", t, 1);
        int fail = t.fail();
        failsAt("ADD of what FAILS", t, t.add(array, zero, fail), 7, fail);
        DUE.is("ADD of what FAILS: the ELEMENT", t.rules.element((int) t.rules.get(0), 0), 4);
        fails("ADD to a number", t, t.add(zero, far, z), 9);
        noted("ADD to a number", t);
        fails("ADD at NULL", t, t.add(array, nul, z), 9);
    }

    private static void step() {
        Teller t = new Teller();
        int zero = t.number(0);
        int[] edges = {0, 127, 65535, 32767, Integer.MAX_VALUE, Integer.MAX_VALUE, 16777216, 7};
        long[] due = {0, -128, 0, -32768, Integer.MIN_VALUE, Integer.MAX_VALUE + 1L, 16777216, 8};
        for (int base = 1; base < 8; base++) {
            t.rules.run(t.set(base, t.filled(16 + base, t.number(edges[base]))));
            comes("STEP of BASE " + base, t, t.step(t.get(base), zero), 0, edges[base]);
            elements("STEP of BASE " + base, t, base - 1, due[base]);
        }
        int nul = t.nul();
        fails("STEP of NULL", t, t.step(nul, t.note(1, zero)), 1);
        noted("STEP of NULL", t, 1);
        fails("STEP at no ELEMENT", t, t.step(t.make(24, zero), zero), 2);
        fails("STEP of references", t, t.step(t.make(24, t.number(1)), zero), 9);
        fails("STEP of booleans", t, t.step(t.make(16, t.number(1)), zero), 9);
        fails("STEP of an INSTANCE", t, t.step(t.instance(8), t.fail()), 9);
        fails("STEP at NULL", t, t.step(t.get(1), nul), 9);
    }

    private static void reals() {
        for (int base = 6; base < 8; base++) {
            Teller t = new Teller();
            int zero = t.number(0);
            int greatest = t.plus(t.big(Integer.MIN_VALUE, 32), t.number(-1));
            t.rules.run(t.set(0, t.filled(16 + base, greatest)));
            int array = t.get(0);
            comes("more than 64 bits", t, t.add(array, zero, greatest), 0, Long.MAX_VALUE);
            double twice = (double) Long.MAX_VALUE * 2;
            long due = base == 6 ? Float.floatToIntBits((float) twice) : Double.doubleToLongBits(twice);
            DUE.is("more than 64 bits: bits", t.rules.bits(0, 0), due);
            int least = t.get(5);
            comes("back within 64 bits", t, t.add(array, zero, least), 0, Long.MAX_VALUE);
            comes("none left", t, t.add(array, zero, least), 0, 0);
            DUE.is("none left: bits", t.rules.bits(0, 0), 0);
            t.rules.run(t.add(array, zero, least));
            comes("less than 64 bits", t, t.add(array, zero, least), 0, Long.MIN_VALUE);
            due = base == 6 ? Float.floatToIntBits((float) -twice) : Double.doubleToLongBits(-twice);
            DUE.is("less than 64 bits: bits", t.rules.bits(0, 0), due);
            comes("COPY of such", t, t.copy(array), 2, 1);
            DUE.is("COPY of such: bits", t.rules.bits(1, 0), due);
            t.rules.run(t.move(array, zero, t.make(16 + base, t.number(1)), zero, t.number(1)));
            DUE.is("MOVE of such: bits", t.rules.bits(2, 0), due);
        }
        Teller t = new Teller();
        int zero = t.number(0);
        t.rules.run(t.set(0, t.filled(22, t.number(16777216))));
        comes("z is CUT to float first", t, t.add(t.get(0), zero, t.number(16777219)), 0, 33554436);
        comes("a float's sum ends even", t, t.add(t.get(0), zero, t.number(2)), 0, 33554440);
    }

    private static void copy() {
        Teller t = new Teller();
        int zero = t.number(0);
        t.rules.run(t.set(0, t.filled(36, t.filled(20, t.number(4)), t.nul())));
        comes("COPY", t, t.set(1, t.copy(t.get(0))), 2, 2);
        DUE.is("COPY: type", t.rules.thing(2, 0), 36);
        elements("COPY has the same ELEMENTS", t, 2, 1, NONE);
        t.rules.run(t.put(t.get(1), zero, t.nul()));
        elements("COPY is another ARRAY", t, 0, 1, NONE);
        elements("COPY is another ARRAY", t, 2, NONE, NONE);
        fails("COPY of NULL", t, t.copy(t.nul()), 1);
        fails("COPY of a number", t, t.copy(zero), 9);
        fails("COPY of an INSTANCE", t, t.copy(t.instance(8)), 9);
    }

    private static void cast() {
        Teller t = new Teller();
        int wide = t.plus(t.big(-70000, 20), t.number(-129));
        long number = ((long) -70000 << 20) - 129;
        long[] due = {
            1, (byte) number, (char) number, (short) number, (int) number, number, (long) (float) number, number,
        };
        for (int base = 0; base < 8; base++) {
            comes("CAST to BASE " + base, t, t.cast(base, wide), 0, due[base]);
        }
        comes("CAST of the greatest to float", t, t.cast(6, t.plus(t.big(Integer.MIN_VALUE, 32), t.number(-1))), 0, Long.MAX_VALUE);
        int odd = t.plus(t.big(1, 53), t.number(3));
        comes("CAST to double ends even", t, t.cast(7, odd), 0, (1L << 53) + 4);
        comes("CAST to long does not", t, t.cast(5, odd), 0, (1L << 53) + 3);
        int one = t.number(1);
        int nul = t.nul();
        int leaf = t.instance(11);
        for (int type : new int[] {8, 9, 11, 20, 27}) {
            fails("CAST of a number to type " + type, t, t.cast(type, one), 9);
            comes("CAST of NULL to type " + type, t, t.cast(type, nul), 1, NONE);
        }
        fails("CAST of NULL to int", t, t.cast(4, nul), 9);
        fails("CAST of a THING to int", t, t.cast(4, leaf), 9);
        comes("CAST of LEAF to NAMED", t, t.cast(9, leaf), 2, 1);
        fails("CAST of ROOT to LEAF", t, t.cast(11, t.instance(10)), 5);
        fails("CAST of LEAF to ARRAYS", t, t.cast(27, leaf), 5);
        comes("CAST of ARRAYS to OBJECT", t, t.cast(8, t.make(20, one)), 2, 4);
        fails("CAST of ARRAYS of int to those of OBJECT", t, t.cast(24, t.make(20, one)), 5);
    }

    private static void is() {
        Teller t = new Teller();
        int leaf = t.instance(11);
        comes("IS LEAF a ROOT", t, t.is(10, leaf), 0, 1);
        comes("IS LEAF a LEAF[]", t, t.is(27, leaf), 0, 0);
        comes("IS OBJECT a LEAF", t, t.is(11, t.instance(8)), 0, 0);
        comes("IS NULL an OBJECT", t, t.is(8, t.nul()), 0, 0);
        comes("IS LEAF[] a NAMED[]", t, t.is(25, t.filled(27, leaf)), 0, 1);
        comes("IS int[] an OBJECT", t, t.is(8, t.filled(20)), 0, 1);
        isOfNumbers(t, leaf);
        int fail = t.fail();
        failsAt("IS what FAILS", t, t.is(8, fail), 7, fail);
    }

    /** A reference is wanted there: a number FAILS 9, whatever the type, once it was worked. */
    private static void isOfNumbers(Teller t, int leaf) {
        int noted = t.note(1, t.number(0));
        for (int type : new int[] {8, 9, 10, 11, 16, 20, 24, 59}) {
            int is = t.is(type, noted);
            failsAt("IS a number of type " + type, t, is, 9, is);
            noted("IS a number of type " + type, t, 1);
        }
        // Numbers that are also the numbers of a THING and of NULL.
        fails("IS 1 an OBJECT", t, t.is(8, t.number(1)), 9);
        fails("IS -1 an OBJECT", t, t.is(8, t.number(-1)), 9);
        fails("IS a LENGTH an OBJECT", t, t.is(8, t.length(t.filled(27, leaf))), 9);
        fails("IS an IS an OBJECT", t, t.is(8, t.is(8, leaf)), 9);
        fails("IS an ELEMENT of int an OBJECT", t, t.is(8, t.at(t.filled(20, t.number(3)), t.number(0))), 9);
        comes("IS a number, caught", t, t.caught(t.is(8, t.number(0)), t.get(3), 3), 0, 9);
    }

    private static void same() {
        Teller t = new Teller();
        int nul = t.nul();
        int zero = t.number(0);
        int thing = t.instance(8);
        t.rules.run(t.set(0, thing));
        comes("SAME numbers", t, t.same(zero, t.plus(zero, zero)), 0, 1);
        comes("SAME numbers", t, t.same(zero, t.number(1)), 0, 0);
        comes("SAME NULL", t, t.same(nul, nul), 0, 1);
        comes("SAME THING", t, t.same(t.get(0), t.get(0)), 0, 1);
        comes("SAME THINGS", t, t.same(thing, thing), 0, 0);
        comes("SAME THING and NULL", t, t.same(thing, nul), 0, 0);
        comes("SAME NULL and THING", t, t.same(nul, thing), 0, 0);
        fails("SAME number and THING 0", t, t.same(t.note(1, zero), t.note(2, t.get(0))), 9);
        noted("SAME number and THING 0", t, 1, 2);
        fails("SAME NULL and -1", t, t.same(nul, t.number(-1)), 9);
    }

    private static void each() {
        Teller t = new Teller();
        int zero = t.number(0);
        int one = t.number(1);
        t.rules.run(t.set(0, t.filled(20, one, t.number(2), t.number(3))));
        int array = t.get(0);
        int total = t.set(2, t.plus(t.get(2), t.get(1)));
        comes("EACH", t, t.each(array, 1, t.note(9, total)), 0, 3);
        noted("EACH", t, 9, 9, 9);
        DUE.is("EACH: the sum", t.rules.get(2), 6);
        DUE.is("EACH: the last ELEMENT", t.rules.get(1), 3);
        int ahead = t.put(array, t.number(2), t.number(40));
        comes("EACH as it is then", t, t.each(array, 1, ahead), 0, 3);
        DUE.is("EACH as it is then", t.rules.get(1), 40);
        comes("EACH keeps to its ARRAY", t, t.each(array, 0, zero), 0, 3);
        DUE.is("EACH keeps to its ARRAY", t.rules.get(0), 40);
        comes("EACH of references", t, t.each(t.filled(24, t.nul(), t.instance(8)), 3, zero), 0, 2);
        DUE.is("EACH of references", t.rules.has(3), 2);
        comes("EACH of none", t, t.each(t.filled(20), 3, t.fail()), 0, 0);
        DUE.is("EACH of none leaves the VARIABLE", t.rules.has(3), 2);
        fails("EACH of NULL", t, t.each(t.nul(), 3, t.note(1, zero)), 1);
        noted("EACH of NULL", t);
        fails("EACH of a number", t, t.each(zero, 3, zero), 9);
        fails("EACH of an INSTANCE", t, t.each(t.instance(8), 3, zero), 9);
    }

    private static void varied() {
        Teller t = new Teller();
        int nul = t.nul();
        int one = t.number(1);
        int ints = t.filled(20, one);
        comes("VARIED of none", t, t.varied(20), 2, 0);
        elements("VARIED of none", t, 0);
        comes("VARIED of NULL", t, t.varied(26, nul), 1, NONE);
        comes("VARIED of one of its type", t, t.varied(20, ints), 2, 1);
        DUE.is("VARIED of one of its type: THINGS", t.rules.told(1), 2);
        comes("VARIED of a SUB type", t, t.varied(25, t.filled(27)), 2, 2);
        comes("VARIED of one ARRAY among ARRAYS", t, t.varied(36, ints), 2, 4);
        elements("VARIED of one ARRAY among ARRAYS", t, 4, 3);
        comes("VARIED of an ARRAY as an OBJECT", t, t.varied(24, ints), 2, 6);
        elements("VARIED of an ARRAY as an OBJECT", t, 6, 5);
        comes("VARIED of one number", t, t.varied(17, t.number(200)), 2, 7);
        elements("VARIED of one number", t, 7, -56);
        comes("VARIED of two NULLS", t, t.varied(26, t.note(1, nul), t.note(2, nul)), 2, 8);
        noted("VARIED of two NULLS", t, 1, 2);
        elements("VARIED of two NULLS", t, 8, NONE, NONE);
        fails("VARIED with a wrong THING", t, t.varied(27, t.instance(11), t.instance(10), t.note(1, one)), 3);
        noted("VARIED with a wrong THING", t, 1);
        elements("VARIED with a wrong THING", t, 11, 9, NONE, NONE);
        fails("VARIED of NULL among numbers", t, t.varied(20, one, nul), 9);
        elements("VARIED of NULL among numbers", t, 12, 1, 0);
        fails("VARIED of a wrong THING", t, t.varied(20, t.instance(8)), 9);
        int fail = t.fail();
        failsAt("VARIED of what FAILS", t, t.varied(20, one, fail), 7, fail);
        DUE.is("VARIED of what FAILS makes none", t.rules.told(1), 15);
        t.rules.clear();
        int two = t.number(2);
        int within = t.varied(36, t.varied(20, t.number(3), two), t.varied(20, two, t.number(4), two));
        comes("VARIED within VARIED", t, t.varied(52, within, t.nul(), within), 2, 21);
        elements("VARIED within VARIED", t, 21, 17, NONE, 20);
        elements("VARIED within VARIED", t, 17, 15, 16);
        elements("VARIED within VARIED", t, 16, 2, 4, 2);
    }

    private static void flow() {
        Teller t = new Teller();
        int nul = t.nul();
        comes("THEN", t, t.then(t.note(1, nul), t.note(2, t.number(4))), 0, 4);
        noted("THEN", t, 1, 2);
        int yes = t.note(1, t.number(5));
        int no = t.note(2, nul);
        comes("IF", t, t.choose(t.number(-1), yes, no), 0, 5);
        noted("IF", t, 1);
        comes("IF 0", t, t.choose(t.number(0), yes, no), 1, NONE);
        noted("IF 0", t, 2);
        fails("IF NULL", t, t.choose(nul, yes, no), 9);
        noted("IF NULL", t);
        comes("SET", t, t.set(4, yes), 0, 5);
        comes("GET", t, t.get(4), 0, 5);
        int fail = t.fail();
        failsAt("SET to what FAILS", t, t.set(4, fail), 7, fail);
        comes("GET", t, t.get(4), 0, 5);
    }

    private static void caught() {
        Teller t = new Teller();
        int five = t.number(5);
        int fail = t.fail();
        comes("CATCH of none", t, t.caught(five, fail, 1), 0, 5);
        DUE.is("CATCH of none", t.rules.get(1), 0);
        int seen = t.get(1);
        comes("CATCH: y sees the VARIABLE", t, t.caught(fail, seen, 1), 0, 7);
        comes("CATCH of 8", t, t.caught(t.over(five, t.number(0)), seen, 1), 0, 8);
        comes("CATCH of 9", t, t.caught(t.length(five), seen, 1), 0, 9);
        comes("CATCH of a LIST", t, t.caught(t.list(five), seen, 1), 0, 9);
        failsAt("CATCH whose y FAILS", t, t.caught(fail, t.over(five, t.number(0)), 1), 8, t.rules.told(0) - 2);
        comes("CATCH of a CATCH", t, t.caught(t.caught(t.length(t.nul()), fail, 2), seen, 1), 0, 7);
        DUE.is("CATCH of a CATCH", t.rules.get(2), 1);
        t.rules.run(t.caught(t.then(t.set(3, t.instance(8)), fail), five, 1));
        DUE.is("what was made and set stays", t.rules.has(3), 2);
    }

    private static void move() {
        Teller t = new Teller();
        int zero = t.number(0);
        int one = t.number(1);
        int two = t.number(2);
        t.rules.run(t.set(0, t.filled(20, t.number(10), t.number(11), t.number(12), t.number(13))));
        t.rules.run(t.set(1, t.make(20, two)));
        int from = t.get(0);
        int to = t.get(1);
        comes("MOVE", t, t.move(from, two, to, zero, two), 0, 2);
        elements("MOVE", t, 1, 12, 13);
        comes("MOVE within, upward", t, t.move(from, zero, from, one, t.number(3)), 0, 3);
        elements("MOVE within, upward", t, 0, 10, 10, 11, 12);
        comes("MOVE within, downward", t, t.move(from, one, from, zero, t.number(3)), 0, 3);
        elements("MOVE within, downward", t, 0, 10, 11, 12, 12);
        comes("MOVE of none, at the end", t, t.move(from, t.number(4), to, two, zero), 0, 0);
        comes("MOVE of references to a wider type", t,
            t.move(t.filled(27, t.instance(11)), zero, t.set(2, t.make(25, two)), one, one), 0, 1);
        elements("MOVE of references to a wider type", t, 4, NONE, 3);
        comes("MOVE of references to a narrower type", t, t.move(t.get(2), zero, t.make(27, two), zero, two), 0, 2);
        elements("MOVE of references to a narrower type", t, 5, NONE, 3);
        comes("MOVE of none to another type", t, t.move(t.get(2), zero, t.make(36, two), zero, zero), 0, 0);
        t.rules.run(t.set(3, t.filled(24, t.instance(11), t.instance(10), t.instance(11))));
        fails("MOVE of a wrong THING", t,
            t.move(t.get(3), zero, t.make(27, t.number(3)), zero, t.number(3)), 3);
        elements("MOVE of a wrong THING", t, 11, 8, NONE, NONE);
        fails("MOVE of a wrong THING first", t, t.move(t.get(3), one, t.make(27, two), zero, two), 3);
        elements("MOVE of a wrong THING first", t, 12, NONE, NONE);
    }

    private static void moveFails() {
        Teller t = new Teller();
        int one = t.note(1, t.number(1));
        int minus = t.note(2, t.number(-1));
        int nul = t.note(3, t.nul());
        int ints = t.note(4, t.make(20, t.number(1)));
        int longs = t.note(5, t.make(21, t.number(1)));
        int objects = t.note(6, t.make(24, t.number(1)));
        fails("MOVE from NULL", t, t.move(nul, minus, objects, minus, minus), 1);
        noted("MOVE from NULL", t, 3, 2, 6, 2, 2);
        fails("MOVE to NULL", t, t.move(ints, minus, nul, minus, minus), 1);
        fails("MOVE of another BASE", t, t.move(ints, minus, longs, minus, minus), 3);
        fails("MOVE of numbers to references", t, t.move(ints, minus, objects, minus, minus), 3);
        fails("MOVE of references to numbers", t, t.move(objects, minus, ints, minus, minus), 3);
        int zero = t.number(0);
        fails("MOVE from below 0", t, t.move(ints, minus, ints, zero, zero), 2);
        fails("MOVE to below 0", t, t.move(ints, zero, ints, minus, zero), 2);
        fails("MOVE of fewer than 0", t, t.move(ints, zero, ints, zero, minus), 2);
        fails("MOVE from too few", t, t.move(ints, one, ints, zero, one), 2);
        fails("MOVE to too few", t, t.move(ints, zero, ints, one, one), 2);
        int great = t.number(Integer.MAX_VALUE);
        fails("MOVE of too many", t, t.move(ints, one, ints, one, great), 2);
        int wide = t.number(65536);
        fails("MOVE from where there is none", t, t.move(ints, wide, ints, zero, zero), 2);
        fails("MOVE to where there is none", t, t.move(ints, zero, ints, wide, zero), 2);
        fails("MOVE of more than there are", t, t.move(ints, zero, ints, zero, wide), 2);
        fails("MOVE of numbers at a THING", t, t.move(ints, one, one, zero, zero), 9);
        noted("MOVE of numbers at a THING", t, 4, 1, 1);
        t.rules.clear();
        int array = t.make(20, t.number(1));
        int wrong = t.nul();
        int noting = t.note(7, t.number(0));
        fails("MOVE with NULL as y", t, t.move(array, wrong, noting, noting, noting), 9);
        noted("MOVE with NULL as y", t);
        fails("MOVE with NULL as p", t, t.move(array, noting, array, wrong, noting), 9);
        noted("MOVE with NULL as p", t, 7);
        fails("MOVE with NULL as n", t, t.move(array, noting, array, noting, wrong), 9);
        noted("MOVE with NULL as n", t, 7, 7);
        fails("MOVE of an INSTANCE", t, t.move(t.instance(8), noting, array, noting, noting), 9);
        noted("MOVE of an INSTANCE", t);
    }

    private static void lists() {
        Teller t = new Teller();
        int one = t.number(1);
        int list = t.list(one, one);
        fails("a LIST by itself", t, list, 9);
        failsAt("a LIST as a part", t, t.plus(one, list), 9, list);
        failsAt("a LIST in a LIST", t, t.filled(20, one, list), 9, list);
        elements("a LIST in a LIST", t, 0, 1, 0);
        failsAt("a LIST in a VARIED", t, t.varied(20, list), 9, list);
        failsAt("a LIST in a CATCH", t, t.caught(list, list, 0), 9, list);
    }
}
