/** Each promise by itself: ordinary inputs, the edges that the document names, wrong inputs. */
public final class PromisesTest {
    private static final int NONE = ArrayRules.NONE, OUTSIDE = ArrayRules.OUTSIDE, ROOM = ArrayRules.ROOM;
    private static final Due DUE = new Due("PromisesTest");

    public static void main(String[] args) {
        aNewObject();
        nodeTakesParts();
        nodeWithLists();
        nodeWithTypes();
        nodeWithSizes();
        nodeHasRoom();
        clear();
        run();
        value();
        where();
        worked();
        notes();
        variables();
        thing();
        element();
        bits();
        sub();
        told();
        DUE.end();
    }

    private static void aNewObject() {
        ArrayRules rules = new ArrayRules();
        DUE.is("1 told(0)", rules.told(0), 0);
        DUE.is("1 told(1)", rules.told(1), 0);
        DUE.is("1 told(2)", rules.told(2), 0);
        DUE.is("1 value()", rules.value(), 0);
        DUE.is("1 where()", rules.where(), NONE);
        DUE.is("1 worked()", rules.worked(), 0);
        DUE.is("1 notes()", rules.notes(), 0);
        DUE.is("1 note(0)", rules.note(0), OUTSIDE);
        DUE.is("1 run(0)", rules.run(0), OUTSIDE);
        DUE.is("1 clear()", rules.clear(), 0);
        for (int variable = 0; variable < 8; variable++) {
            DUE.is("1 has(" + variable + ")", rules.has(variable), 0);
            DUE.is("1 get(" + variable + ")", rules.get(variable), 0);
        }
        Teller other = new Teller();
        other.rules.run(other.set(0, other.instance(8)));
        DUE.is("1 has(0) beside another object", rules.has(0), 0);
        DUE.is("1 told(1) beside another object", rules.told(1), 0);
    }

    private static void refused(ArrayRules rules, int code, int a, int b, int c, int d) {
        int before = rules.told(0);
        DUE.is("2 node(" + code + ", " + a + ", " + b + ", " + c + ", " + d + ")", rules.node(code, a, b, c, d), OUTSIDE);
        DUE.is("2 told(0) after it", rules.told(0), before);
    }

    private static void taken(ArrayRules rules, int code, int a, int b, int c, int d) {
        int before = rules.told(0);
        DUE.is("2 node(" + code + ", " + a + ", " + b + ", " + c + ", " + d + ")", rules.node(code, a, b, c, d), before);
    }

    private static void nodeTakesParts() {
        ArrayRules rules = new ArrayRules();
        refused(rules, -1, 0, 0, 0, 0);
        refused(rules, 27, 0, 0, 0, 0);
        refused(rules, Integer.MAX_VALUE, 0, 0, 0, 0);
        refused(rules, Integer.MIN_VALUE, 0, 0, 0, 0);
        refused(rules, 12, 0, 0, 0, 0);
        taken(rules, 0, Integer.MIN_VALUE, -7, 90, 90);
        taken(rules, 1, -7, -7, -7, -7);
        taken(rules, 5, -7, -7, -7, -7);
        for (int variable : new int[] {-1, 8}) {
            refused(rules, 2, variable, 0, 0, 0);
            refused(rules, 3, variable, 0, 0, 0);
            refused(rules, 21, 0, variable, 0, 0);
            refused(rules, 25, 0, 0, variable, 0);
        }
        taken(rules, 2, 7, -7, -7, -7);
        taken(rules, 3, 7, 0, -7, -7);
        taken(rules, 4, -7, 0, -7, -7);
        taken(rules, 21, 0, 7, 0, -7);
        taken(rules, 25, 0, 0, 7, -7);
        refused(rules, 3, 0, rules.told(0), 0, 0);
        refused(rules, 4, 0, NONE, 0, 0);
        int[] parts = {0, 0, 0, 1, 1, 0, 2, 2, 0, 0, 0, 0, 1, 2, 3, 3, 2, 1, 0, 0, 2, 1, 0, 2, 3, 2, 3};
        for (int code = 6; code <= 26; code++) {
            for (int part = 0; part < parts[code]; part++) {
                int[] p = {0, 0, 0, code == 26 ? -7 : 0};
                for (int wrong : new int[] {NONE, rules.told(0), 80, Integer.MAX_VALUE, Integer.MIN_VALUE}) {
                    p[part] = wrong;
                    refused(rules, code, p[0], p[1], p[2], p[3]);
                }
            }
            if (parts[code] > 0 && code != 26) {
                taken(rules, code, 0, 0, parts[code] == 3 ? 0 : code == 21 || code == 25 ? 0 : -7, -7);
            }
        }
        refused(rules, 21, 0, 0, NONE, 0);
        refused(rules, 18, 4, rules.told(0), 0, 0);
        refused(rules, 19, 8, NONE, 0, 0);
    }

    private static void nodeWithLists() {
        ArrayRules rules = new ArrayRules();
        taken(rules, 0, 5, 0, 0, 0);
        taken(rules, 10, NONE, 0, -7, -7);
        taken(rules, 10, 1, 1, -7, -7);
        taken(rules, 10, 2, 0, -7, -7);
        refused(rules, 10, 0, 0, 0, 0);
        refused(rules, 10, 4, 0, 0, 0);
        refused(rules, 10, -2, 0, 0, 0);
        refused(rules, 10, 1, NONE, 0, 0);
        refused(rules, 10, 1, 4, 0, 0);
        for (int code : new int[] {11, 22}) {
            refused(rules, code, 20, 0, 0, 0);
            refused(rules, code, 20, -2, 0, 0);
            refused(rules, code, 20, rules.told(0), 0, 0);
            refused(rules, code, 4, 3, 0, 0);
            taken(rules, code, 20, NONE, -7, -7);
            taken(rules, code, 20, 3, -7, -7);
        }
        refused(rules, 26, 0, 0, 0, NONE);
        refused(rules, 26, 0, 0, 0, 0);
        refused(rules, 26, 0, 0, 0, 1);
        refused(rules, 26, 0, 0, 0, 3);
        refused(rules, 26, 0, 0, 0, rules.told(0));
        taken(rules, 26, 0, 0, 0, 2);
        taken(rules, 6, 1, 2, -7, -7);
    }

    private static void nodeWithTypes() {
        ArrayRules rules = new ArrayRules();
        taken(rules, 0, 5, 0, 0, 0);
        for (int type = -3; type < 70; type++) {
            boolean fits = type >= 0 && type < 64 && type % 16 < 12;
            boolean[] wanted = {fits && type >= 16, fits, fits && type >= 8, type == 8 || type == 10 || type == 11};
            int[] codes = {9, 18, 19, 8};
            for (int i = 0; i < 4; i++) {
                rules.clear();
                taken(rules, 0, 5, 0, 0, 0);
                if (wanted[i]) {
                    taken(rules, codes[i], type, 0, NONE, NONE);
                } else {
                    refused(rules, codes[i], type, 0, NONE, NONE);
                }
            }
        }
    }

    private static void nodeWithSizes() {
        ArrayRules rules = new ArrayRules();
        taken(rules, 0, 5, 0, 0, 0);
        refused(rules, 9, 52, NONE, NONE, NONE);
        refused(rules, 9, 52, NONE, 0, 0);
        refused(rules, 9, 52, 0, NONE, 0);
        refused(rules, 9, 52, 0, -2, NONE);
        refused(rules, 9, 52, 0, 1, NONE);
        refused(rules, 9, 52, 0, 0, 1);
        refused(rules, 9, 52, 0, 0, -2);
        refused(rules, 9, 36, 0, 0, 0);
        refused(rules, 9, 20, 0, 0, NONE);
        refused(rules, 9, 20, 0, NONE, 0);
        taken(rules, 9, 52, 0, 0, 0);
        taken(rules, 9, 52, 0, 0, NONE);
        taken(rules, 9, 52, 0, NONE, NONE);
        taken(rules, 9, 36, 0, 0, NONE);
        taken(rules, 9, 20, 0, NONE, NONE);
    }

    private static void nodeHasRoom() {
        ArrayRules rules = new ArrayRules();
        for (int i = 0; i < 80; i++) {
            taken(rules, 0, i, 0, 0, 0);
        }
        DUE.is("2 the 81st node", rules.node(0, 0, 0, 0, 0), ROOM);
        DUE.is("2 a wrong 81st node", rules.node(2, 8, 0, 0, 0), OUTSIDE);
        DUE.is("2 told(0)", rules.told(0), 80);
        DUE.is("2 run(79)", rules.run(79), 0);
        DUE.is("2 value()", rules.value(), 79);
        DUE.is("2 run(80)", rules.run(80), OUTSIDE);
    }

    private static void clear() {
        Teller t = new Teller();
        t.rules.run(t.note(6, t.set(3, t.make(20, t.number(2)))));
        int told = t.rules.told(0);
        DUE.is("3 clear()", t.rules.clear(), told);
        DUE.is("3 told(0)", t.rules.told(0), 0);
        DUE.is("3 clear() again", t.rules.clear(), 0);
        DUE.is("3 run(0)", t.rules.run(0), OUTSIDE);
        DUE.is("3 has(3)", t.rules.has(3), 2);
        DUE.is("3 told(1)", t.rules.told(1), 1);
        DUE.is("3 told(2)", t.rules.told(2), 2);
        DUE.is("3 notes()", t.rules.notes(), 1);
        DUE.is("3 note(0)", t.rules.note(0), 6);
        DUE.is("3 value() of the latest run", t.rules.value(), 0);
        DUE.is("3 worked() of the latest run", t.rules.worked(), 4);
        DUE.is("3 node after it", t.rules.node(10, NONE, 0, 0, 0), OUTSIDE);
        DUE.is("3 node after it", t.rules.node(2, 3, 0, 0, 0), 0);
        DUE.is("3 run after it", t.rules.run(0), 2);
        int fail = t.fail();
        t.rules.run(fail);
        t.rules.clear();
        DUE.is("3 where() of the latest run", t.rules.where(), fail);
    }

    private static void run() {
        Teller t = new Teller();
        int number = t.number(-2);
        int nul = t.nul();
        int thing = t.instance(10);
        int fail = t.fail();
        DUE.is("4 run of a number", t.rules.run(number), 0);
        DUE.is("4 run of NULL", t.rules.run(nul), 1);
        DUE.is("4 run of a THING", t.rules.run(thing), 2);
        DUE.is("4 run that FAILS", t.rules.run(fail), -17);
        for (int wrong : new int[] {-1, 4, 80, Integer.MAX_VALUE, Integer.MIN_VALUE}) {
            DUE.is("4 run(" + wrong + ")", t.rules.run(wrong), OUTSIDE);
        }
        DUE.is("4 where() is still of the latest run", t.rules.where(), fail);
        int noted = t.note(1, t.note(2, number));
        t.rules.run(noted);
        DUE.is("4 notes()", t.rules.notes(), 2);
        t.rules.run(number);
        DUE.is("4 the TRACE is empty at first", t.rules.notes(), 0);
        DUE.is("4 note(0)", t.rules.note(0), OUTSIDE);
    }

    private static void value() {
        Teller t = new Teller();
        int number = t.big(Integer.MIN_VALUE, 32);
        t.rules.run(number);
        DUE.is("5 the least number", t.rules.value(), Long.MIN_VALUE);
        t.rules.run(t.plus(number, t.number(-1)));
        DUE.is("5 going round", t.rules.value(), Long.MAX_VALUE);
        t.rules.run(99);
        DUE.is("5 an OUTSIDE run leaves it", t.rules.value(), Long.MAX_VALUE);
        int thing = t.instance(8);
        t.rules.run(thing);
        DUE.is("5 a THING", t.rules.value(), 0);
        t.rules.run(thing);
        DUE.is("5 the next THING", t.rules.value(), 1);
        t.rules.run(t.nul());
        DUE.is("5 NULL", t.rules.value(), NONE);
        t.rules.run(t.then(thing, t.fail()));
        DUE.is("5 it FAILED", t.rules.value(), 0);
    }

    private static void where() {
        Teller t = new Teller();
        int five = t.number(5);
        int fail = t.fail();
        int set = t.set(0, fail);
        DUE.is("6 run", t.rules.run(t.then(five, set)), -17);
        DUE.is("6 innermost", t.rules.where(), fail);
        int misfit = t.plus(t.nul(), fail);
        t.rules.run(t.set(1, misfit));
        DUE.is("6 the NODE that wanted another part", t.rules.where(), misfit);
        t.rules.run(t.caught(set, five, 2));
        DUE.is("6 taken", t.rules.where(), NONE);
        int second = t.over(five, t.number(0));
        t.rules.run(t.caught(set, second, 2));
        DUE.is("6 behind one that was taken", t.rules.where(), second);
        int list = t.list(five);
        t.rules.run(list);
        DUE.is("6 a LIST", t.rules.where(), list);
        t.rules.run(five);
        DUE.is("6 none", t.rules.where(), NONE);
    }

    private static void worked() {
        Teller t = new Teller();
        int one = t.number(1);
        int sum = t.plus(one, one);
        t.rules.run(sum);
        DUE.is("7 a NODE worked twice", t.rules.worked(), 3);
        t.rules.run(t.choose(one, one, sum));
        DUE.is("7 what is left out", t.rules.worked(), 3);
        t.rules.run(t.filled(20, one, one, sum));
        DUE.is("7 a LIST's NODES, not LISTS", t.rules.worked(), 6);
        t.rules.run(t.then(t.fail(), one));
        DUE.is("7 up to what FAILS", t.rules.worked(), 2);
        t.rules.run(t.list(one));
        DUE.is("7 a LIST by itself", t.rules.worked(), 0);
        t.rules.run(80);
        DUE.is("7 OUTSIDE leaves it", t.rules.worked(), 0);
    }

    private static void notes() {
        Teller t = new Teller();
        int noted = t.note(Integer.MIN_VALUE, t.number(3));
        DUE.is("8 run", t.rules.run(t.note(-2, noted)), 0);
        DUE.is("8 value()", t.rules.value(), 3);
        DUE.is("8 notes()", t.rules.notes(), 2);
        DUE.is("9 note(0)", t.rules.note(0), -2);
        DUE.is("9 note(1)", t.rules.note(1), Integer.MIN_VALUE);
        for (int wrong : new int[] {-1, 2, 256, Integer.MAX_VALUE, Integer.MIN_VALUE}) {
            DUE.is("9 note(" + wrong + ")", t.rules.note(wrong), OUTSIDE);
        }
        t.rules.run(t.note(4, t.fail()));
        DUE.is("8 noted ahead of a failing", t.rules.notes(), 1);
        DUE.is("9 note(0)", t.rules.note(0), 4);
        int array = t.make(16, t.number(256));
        t.rules.run(t.each(array, 0, noted));
        DUE.is("8 as many as are kept", t.rules.notes(), 256);
        DUE.is("9 note(255)", t.rules.note(255), Integer.MIN_VALUE);
        t.rules.run(t.then(t.each(array, 0, noted), t.note(5, t.note(6, t.nul()))));
        DUE.is("8 more than are kept", t.rules.notes(), 258);
        DUE.is("9 note(255)", t.rules.note(255), Integer.MIN_VALUE);
        DUE.is("9 note(256)", t.rules.note(256), OUTSIDE);
        DUE.is("9 note(257)", t.rules.note(257), OUTSIDE);
    }

    private static void variables() {
        Teller t = new Teller();
        t.rules.run(t.set(0, t.number(-9)));
        t.rules.run(t.set(6, t.nul()));
        t.rules.run(t.then(t.instance(8), t.set(7, t.instance(11))));
        DUE.is("10 has(0)", t.rules.has(0), 0);
        DUE.is("10 has(6)", t.rules.has(6), 1);
        DUE.is("10 has(7)", t.rules.has(7), 2);
        DUE.is("11 get(0)", t.rules.get(0), -9);
        DUE.is("11 get(6)", t.rules.get(6), NONE);
        DUE.is("11 get(7)", t.rules.get(7), 1);
        for (int wrong : new int[] {-1, 8, Integer.MAX_VALUE, Integer.MIN_VALUE}) {
            DUE.is("10 has(" + wrong + ")", t.rules.has(wrong), OUTSIDE);
            DUE.is("11 get(" + wrong + ")", t.rules.get(wrong), 0);
        }
        t.rules.run(t.then(t.set(7, t.number(2)), t.fail()));
        DUE.is("10 set ahead of a failing", t.rules.has(7), 0);
        DUE.is("11 set ahead of a failing", t.rules.get(7), 2);
    }

    private static void thing() {
        Teller t = new Teller();
        int leaf = t.instance(11);
        t.rules.run(leaf);
        t.rules.run(t.filled(24, t.nul(), leaf, leaf, t.nul()));
        t.rules.run(t.make(20, t.number(3)));
        DUE.is("12 type of an INSTANCE", t.rules.thing(0, 0), 11);
        DUE.is("12 LENGTH of an INSTANCE", t.rules.thing(0, 1), NONE);
        DUE.is("12 THINGS in an INSTANCE", t.rules.thing(0, 2), 0);
        DUE.is("12 type of an ARRAY", t.rules.thing(1, 0), 24);
        DUE.is("12 LENGTH of an ARRAY", t.rules.thing(1, 1), 4);
        DUE.is("12 THINGS in an ARRAY", t.rules.thing(1, 2), 2);
        DUE.is("12 no THINGS in what is put there", t.rules.thing(2, 2), 0);
        t.rules.run(t.filled(24, leaf, t.nul()));
        DUE.is("12 a THING as the first ELEMENT", t.rules.thing(5, 2), 1);
        t.rules.run(t.set(0, leaf));
        t.rules.run(t.filled(24, t.get(0), t.get(0)));
        DUE.is("12 the same THING twice", t.rules.thing(8, 2), 2);
        DUE.is("12 type of numbers", t.rules.thing(4, 0), 20);
        DUE.is("12 THINGS among numbers", t.rules.thing(4, 2), 0);
        for (int wrong : new int[] {-1, 9, 400, Integer.MAX_VALUE, Integer.MIN_VALUE}) {
            DUE.is("12 thing(" + wrong + ", 0)", t.rules.thing(wrong, 0), OUTSIDE);
        }
        for (int wrong : new int[] {-1, 3, Integer.MAX_VALUE, Integer.MIN_VALUE}) {
            DUE.is("12 thing(1, " + wrong + ")", t.rules.thing(1, wrong), OUTSIDE);
        }
    }

    private static void element() {
        Teller t = new Teller();
        t.rules.run(t.filled(21, t.number(-7), t.number(8)));
        t.rules.run(t.filled(24, t.nul(), t.instance(8)));
        DUE.is("13 a number", t.rules.element(0, 0), -7);
        DUE.is("13 a number", t.rules.element(0, 1), 8);
        DUE.is("13 NULL", t.rules.element(1, 0), NONE);
        DUE.is("13 a THING", t.rules.element(1, 1), 2);
        DUE.is("13 of an INSTANCE", t.rules.element(2, 0), 0);
        for (int wrong : new int[] {-1, 2, 4000, Integer.MAX_VALUE, Integer.MIN_VALUE}) {
            DUE.is("13 element(0, " + wrong + ")", t.rules.element(0, wrong), 0);
            DUE.is("13 element(1, " + wrong + ")", t.rules.element(1, wrong), 0);
            DUE.is("14 bits(1, " + wrong + ")", t.rules.bits(1, wrong), 0);
        }
        for (int wrong : new int[] {-1, 3, Integer.MAX_VALUE, Integer.MIN_VALUE}) {
            DUE.is("13 element(" + wrong + ", 0)", t.rules.element(wrong, 0), 0);
            DUE.is("14 bits(" + wrong + ", 0)", t.rules.bits(wrong, 0), 0);
        }
    }

    private static void bits() {
        for (int number : new int[] {0, 1, -1, 2, 3, -3, 16777215, 16777217, -16777219, Integer.MAX_VALUE, Integer.MIN_VALUE}) {
            for (int shifts : new int[] {0, 1, 30, 31, 32}) {
                Teller t = new Teller();
                int big = t.big(number, shifts);
                long due = (long) number << shifts;
                t.rules.run(t.filled(22, big));
                t.rules.run(t.filled(23, big));
                t.rules.run(t.filled(21, big));
                DUE.is("14 float " + due, t.rules.bits(0, 0), Float.floatToIntBits((float) due));
                DUE.is("14 double " + due, t.rules.bits(1, 0), Double.doubleToLongBits((double) due));
                DUE.is("14 long " + due, t.rules.bits(2, 0), due);
                DUE.is("13 float " + due, t.rules.element(0, 0), (long) (float) due);
                DUE.is("13 double " + due, t.rules.element(1, 0), (long) (double) due);
                DUE.is("14 behind the last float", t.rules.bits(0, 1), 0);
            }
        }
        Teller t = new Teller();
        t.rules.run(t.filled(24, t.nul(), t.instance(8)));
        DUE.is("14 NULL", t.rules.bits(0, 0), NONE);
        DUE.is("14 a THING", t.rules.bits(0, 1), 1);
        DUE.is("14 of an INSTANCE", t.rules.bits(1, 0), 0);
    }

    private static void sub() {
        ArrayRules rules = new ArrayRules();
        int[][] yes = {
            {0, 0}, {7, 7}, {8, 8}, {9, 9}, {11, 10}, {11, 9}, {11, 8}, {10, 9}, {10, 8}, {9, 8}, {16, 8}, {59, 8},
            {20, 20}, {27, 26}, {27, 25}, {27, 24}, {36, 24}, {52, 40}, {52, 24}, {59, 58}, {43, 42}, {25, 24}, {40, 24},
        };
        int[][] no = {
            {0, 1}, {1, 4}, {4, 5}, {6, 7}, {4, 8}, {8, 4}, {8, 9}, {9, 10}, {10, 11}, {8, 16}, {20, 24}, {20, 21},
            {24, 20}, {36, 20}, {20, 36}, {20, 9}, {27, 11}, {59, 42}, {24, 40}, {26, 27}, {36, 25}, {40, 25},
        };
        for (int[] pair : yes) {
            DUE.is("15 sub(" + pair[0] + ", " + pair[1] + ")", rules.sub(pair[0], pair[1]), 1);
        }
        for (int[] pair : no) {
            DUE.is("15 sub(" + pair[0] + ", " + pair[1] + ")", rules.sub(pair[0], pair[1]), 0);
        }
        for (int wrong : new int[] {-1, 12, 15, 28, 63, 64, 80, Integer.MAX_VALUE, Integer.MIN_VALUE}) {
            DUE.is("15 sub(" + wrong + ", 8)", rules.sub(wrong, 8), OUTSIDE);
            DUE.is("15 sub(8, " + wrong + ")", rules.sub(8, wrong), OUTSIDE);
            DUE.is("15 sub(" + wrong + ", " + wrong + ")", rules.sub(wrong, wrong), OUTSIDE);
        }
    }

    private static void told() {
        Teller t = new Teller();
        t.rules.run(t.make(36, t.number(2), t.number(3)));
        DUE.is("16 NODES", t.rules.told(0), 3);
        DUE.is("16 THINGS", t.rules.told(1), 3);
        DUE.is("16 ELEMENTS", t.rules.told(2), 8);
        t.rules.run(t.instance(8));
        DUE.is("16 NODES", t.rules.told(0), 4);
        DUE.is("16 THINGS", t.rules.told(1), 4);
        DUE.is("16 ELEMENTS", t.rules.told(2), 8);
        for (int wrong : new int[] {-1, 3, Integer.MAX_VALUE, Integer.MIN_VALUE}) {
            DUE.is("16 told(" + wrong + ")", t.rules.told(wrong), OUTSIDE);
        }
    }
}
