/** The limits that the document names: NODES, THINGS, ELEMENTS, NODES worked, CATCHES, and depth. */
public final class LimitsTest {
    private static final int NONE = ArrayRules.NONE;
    private static final Due DUE = new Due("LimitsTest");

    public static void main(String[] args) {
        things();
        elements();
        bothLimits();
        sizesBeyondCount();
        nodesWorked();
        nodesWorkedUncaught();
        catches();
        deepest();
        deepestAdds();
        nestedVaried();
        manyCalls();
        DUE.end();
    }

    private static void things() {
        Teller t = new Teller();
        int zero = t.number(0);
        int most = t.make(32, t.number(399), zero);
        int tooMany = t.make(32, t.number(400), zero);
        DUE.is("400 within one more", t.rules.run(tooMany), -16);
        DUE.is("none made", t.rules.told(1), 0);
        DUE.is("no ELEMENTS made", t.rules.told(2), 0);
        DUE.is("399 within one more", t.rules.run(most), 2);
        DUE.is("THINGS", t.rules.told(1), 400);
        int[] makers = {t.instance(8), t.make(20, zero), t.filled(20), t.varied(20), t.copy(t.set(0, t.get(0)))};
        t.rules.run(t.set(0, most));
        for (int i = 0; i < 4; i++) {
            DUE.is("no room for " + i, t.rules.run(makers[i]), -16);
            DUE.is("where", t.rules.where(), makers[i]);
        }
        int fail = t.fail();
        DUE.is("FILLED has no room ahead of its NODES", t.rules.run(t.filled(20, fail)), -16);
        DUE.is("VARIED works its NODES first", t.rules.run(t.varied(20, fail)), -17);
        DUE.is("THINGS stay", t.rules.told(1), 400);
        DUE.is("the last THING", t.rules.thing(399, 0), 16);
        DUE.is("behind the last THING", t.rules.thing(400, 0), -2);
    }

    private static void elements() {
        Teller t = new Teller();
        int one = t.number(1);
        DUE.is("4001", t.rules.run(t.make(16, t.number(4001))), -16);
        DUE.is("3999", t.rules.run(t.set(0, t.make(23, t.number(3999)))), 2);
        DUE.is("two more", t.rules.run(t.filled(20, one, one)), -16);
        DUE.is("COPY", t.rules.run(t.copy(t.get(0))), -16);
        DUE.is("VARIED with two", t.rules.run(t.varied(20, one, one)), -16);
        DUE.is("two arrays", t.rules.run(t.make(36, one, one)), -16);
        DUE.is("THINGS", t.rules.told(1), 1);
        DUE.is("one more", t.rules.run(t.filled(20, t.number(6))), 2);
        DUE.is("ELEMENTS", t.rules.told(2), 4000);
        DUE.is("the last ELEMENT", t.rules.element(1, 0), 6);
        DUE.is("none more", t.rules.run(t.make(20, t.number(0))), 2);
        DUE.is("not one more", t.rules.run(t.make(20, one)), -16);
        DUE.is("an INSTANCE has none", t.rules.run(t.instance(8)), 2);
        DUE.is("the last ELEMENT of the first", t.rules.run(t.put(t.get(0), t.number(3998), one)), 0);
        DUE.is("its bits", t.rules.bits(0, 3998), Double.doubleToLongBits(1));
        DUE.is("MOVE of none behind the last", t.rules.run(t.move(t.get(0), t.number(3999), t.get(0), one, t.number(0))), 0);
    }

    /** THINGS and ELEMENTS that are nearly used up at once. */
    private static void bothLimits() {
        int[] due = {2, -16};
        for (int less = 0; less < 2; less++) {
            Teller t = new Teller();
            int zero = t.number(0);
            t.rules.run(t.make(32, t.number(387 + less), zero));
            t.rules.run(t.make(16, t.number(4000 - 387 - less - 10)));
            DUE.is("THINGS", t.rules.told(1), 389 + less);
            DUE.is("ELEMENTS", t.rules.told(2), 3990);
            DUE.is("11 THINGS, 10 ELEMENTS", t.rules.run(t.make(48, t.number(2), t.number(4), zero)), due[less]);
            DUE.is("THINGS", t.rules.told(1), less == 0 ? 400 : 390);
            DUE.is("ELEMENTS", t.rules.told(2), less == 0 ? 4000 : 3990);
        }
    }

    private static void sizesBeyondCount() {
        int[] sizes = {0, 1, 2, 3, 1000, 65536, 1 << 30, Integer.MAX_VALUE};
        for (int first : sizes) {
            for (int second : sizes) {
                for (int third : sizes) {
                    Teller t = new Teller();
                    double things = 1 + first + (double) first * second;
                    double elements = first + (double) first * second + (double) first * second * third;
                    boolean room = things <= 400 && elements <= 4000;
                    int made = t.rules.run(t.make(52, t.number(first), t.number(second), t.number(third)));
                    DUE.is("MAKE " + first + " " + second + " " + third, made, room ? 2 : -16);
                    DUE.is("THINGS", t.rules.told(1), room ? (long) things : 0);
                    DUE.is("ELEMENTS", t.rules.told(2), room ? (long) elements : 0);
                }
            }
        }
    }

    private static void nodesWorked() {
        Teller t = new Teller();
        int one = t.number(1);
        int array = t.make(16, t.number(2997));
        int loop = t.each(array, 0, one);
        DUE.is("3000 NODES", t.rules.run(loop), 0);
        DUE.is("worked()", t.rules.worked(), 3000);
        Teller u = new Teller();
        one = u.number(1);
        int more = u.then(u.each(u.make(16, u.number(2997)), 0, one), u.number(2));
        DUE.is("3002 NODES", u.rules.run(more), -20);
        DUE.is("worked()", u.rules.worked(), 3000);
        DUE.is("where() is the next one", u.rules.where(), one);
        DUE.is("value()", u.rules.value(), 0);
        u = new Teller();
        int list = u.list(u.number(1));
        loop = u.each(u.make(16, u.number(2996)), 0, u.number(1));
        DUE.is("a LIST behind 3000", u.rules.run(u.then(loop, list)), -19);
        DUE.is("where()", u.rules.where(), list);
    }

    private static void nodesWorkedUncaught() {
        Teller t = new Teller();
        int one = t.number(1);
        int loop = t.each(t.make(16, t.number(3990)), 0, one);
        int caught = t.caught(t.caught(loop, one, 2), one, 3);
        DUE.is("run", t.rules.run(caught), -20);
        DUE.is("where()", t.rules.where(), one);
        DUE.is("worked()", t.rules.worked(), 3000);
        DUE.is("get(2)", t.rules.get(2), 0);
        DUE.is("get(3)", t.rules.get(3), 0);
        DUE.is("the next run", t.rules.run(one), 0);
    }

    private static void catches() {
        Teller t = new Teller();
        int fail = t.fail();
        int caught = t.caught(fail, t.number(6), 1);
        DUE.is("40", t.rules.run(t.each(t.make(16, t.number(40)), 0, caught)), 0);
        DUE.is("where()", t.rules.where(), NONE);
        int tooMany = t.each(t.make(16, t.number(41)), 0, caught);
        DUE.is("41", t.rules.run(tooMany), -20);
        DUE.is("where()", t.rules.where(), caught);
        int outer = t.caught(tooMany, t.number(5), 2);
        DUE.is("41 within a CATCH", t.rules.run(outer), -20);
        DUE.is("where()", t.rules.where(), caught);
        DUE.is("get(2)", t.rules.get(2), 0);
        int fine = t.caught(t.number(1), fail, 1);
        DUE.is("what does not FAIL is not counted", t.rules.run(t.each(t.make(16, t.number(90)), 0, fine)), 0);
        DUE.is("each run anew", t.rules.run(caught), 0);
    }

    private static void deepest() {
        for (int code : new int[] {3, 4, 18, 23, 24, 25, 6, 12, 17}) {
            ArrayRules rules = new ArrayRules();
            int told = rules.node(0, 1, 0, 0, 0);
            while (rules.told(0) < 80) {
                int b = code == 23 || code == 24 || code == 6 || code == 25 ? 0 : told;
                told = rules.node(code, code == 3 ? 1 : code == 18 ? 5 : told, b, 0, 0);
            }
            boolean array = code == 12 || code == 17;
            DUE.is("80 deep, code " + code, rules.run(told), array ? -19 : 0);
            DUE.is("where()", rules.where(), array ? 1 : NONE);
        }
    }

    private static void deepestAdds() {
        Teller t = new Teller();
        int zero = t.number(0);
        t.rules.run(t.set(0, t.filled(21, t.number(1))));
        int array = t.get(0);
        int told = zero;
        while (t.rules.told(0) < 80) {
            told = t.add(array, zero, told);
        }
        DUE.is("ADDS within ADDS", t.rules.run(told), 0);
        long adds = told - array;
        DUE.is("each sees the ELEMENT as it was", t.rules.value(), adds);
    }

    /** As many VALUES held at once as 80 NODES allow for, and each VARIED still has its own. */
    private static void nestedVaried() {
        ArrayRules rules = new ArrayRules();
        int nul = rules.node(1, 0, 0, 0, 0);
        int base = NONE;
        for (int i = 0; i < 38; i++) {
            base = rules.node(10, base, nul, 0, 0);
        }
        int varied = rules.node(22, 24, base, 0, 0);
        int levels = 1;
        while (rules.told(0) < 80) {
            varied = rules.node(22, 24, rules.node(10, base, varied, 0, 0), 0, 0);
            levels++;
        }
        DUE.is("VARIEDS within VARIEDS", rules.run(varied), 2);
        DUE.is("THINGS", rules.told(1), levels);
        DUE.is("worked()", rules.worked(), 39 * levels);
        for (int level = 0; level < levels; level++) {
            DUE.is("LENGTH at level " + level, rules.thing(level, 1), level == 0 ? 38 : 39);
            DUE.is("NULL at level " + level, rules.element(level, 37), NONE);
            DUE.is("THING at level " + level, rules.element(level, 38), level == 0 ? 0 : level - 1);
        }
    }

    private static void manyCalls() {
        Teller t = new Teller();
        int zero = t.number(0);
        t.rules.run(t.set(0, t.filled(22, zero)));
        t.rules.run(t.set(1, t.make(16, t.number(3000))));
        int add = t.add(t.get(0), zero, t.big(Integer.MIN_VALUE, 32));
        int loop = t.each(t.get(1), 2, add);
        for (int i = 0; i < 400; i++) {
            DUE.is("run " + i, t.rules.run(loop), -20);
        }
        DUE.is("element(0, 0)", t.rules.element(0, 0), Long.MIN_VALUE);
        DUE.holds("the float is finite and below 0", Float.intBitsToFloat((int) t.rules.bits(0, 0)) < -1e19f
            && Float.intBitsToFloat((int) t.rules.bits(0, 0)) > -1e30f);
    }
}
