import java.util.Random;

/** Runs of calls by chance (always the same ones), on ArrayRules and on the Oracle. */
public final class OracleTest {
    private static final int[] NUMBERS = {
        0, 0, 1, 1, 2, 2, 3, 4, 5, -1, -2, 127, 128, 255, 256, 32768, 65535, 65536, 16777216, 16777217, 33554435,
        Integer.MAX_VALUE, Integer.MIN_VALUE, -16777217, 200, 1000,
    };
    private static final int[] WILD = {
        -1, -2, -3, 0, 8, 9, 12, 15, 16, 64, 79, 80, 81, 400, 401, 4000, Integer.MAX_VALUE, Integer.MIN_VALUE,
    };
    // Which CODES may FAIL with which numbers of their own.
    private static final int[][] MAY_FAIL = {
        {5, 7}, {6, 9}, {7, 8}, {7, 9}, {8, 6}, {9, 4}, {9, 6}, {9, 9}, {10, 9}, {11, 3}, {11, 6}, {11, 9},
        {12, 1}, {12, 9}, {13, 1}, {13, 2}, {13, 9}, {14, 1}, {14, 2}, {14, 3}, {14, 9}, {15, 1}, {15, 2}, {15, 9},
        {16, 1}, {16, 2}, {16, 9}, {17, 1}, {17, 6}, {17, 9}, {18, 5}, {18, 9}, {20, 9}, {21, 1}, {21, 9},
        {22, 3}, {22, 6}, {22, 9}, {24, 9}, {25, 10}, {26, 1}, {26, 2}, {26, 3}, {26, 9},
    };

    private static final int A_NUMBER = 1, AN_ARRAY = 2;
    // What NODES mostly come to, by CODE: runs in which all FAIL at once show little.
    private static final int[] COMES_TO = {
        1, 0, 0, 0, 0, 0, 1, 1, 0, 2, 0, 2, 1, 0, 0, 1, 1, 2, 0, 1, 1, 1, 2, 0, 0, 0, 1,
    };

    private final int[] comesTo = new int[80];
    private final Due due;
    private final Random chance;
    private final int run;
    private final ArrayRules rules = new ArrayRules();
    private final Oracle oracle = new Oracle();

    private OracleTest(Due due, int run) {
        this.due = due;
        this.run = run;
        this.chance = new Random(run);
    }

    public static void main(String[] args) {
        Due due = new Due("OracleTest");
        int runs = 20000;
        int[][] reached = new int[27][11];
        for (int run = 0; run < runs; run++) {
            OracleTest test = new OracleTest(due, run);
            test.play();
            for (int code = 0; code < 27; code++) {
                for (int number = 0; number < 11; number++) {
                    reached[code][number] += test.oracle.reached[code][number];
                }
            }
        }
        for (int[] pair : MAY_FAIL) {
            due.holds("code " + pair[0] + " failed with " + pair[1] + " in some run", reached[pair[0]][pair[1]] > 0);
        }
        for (int type = -20; type < 90; type++) {
            for (int other = -20; other < 90; other++) {
                OracleTest one = new OracleTest(due, 0);
                due.is("sub(" + type + ", " + other + ")", one.rules.sub(type, other), one.oracle.sub(type, other));
            }
        }
        due.end();
    }

    private void play() {
        if (chance.nextInt(3) == 0) {
            growNumbers();
        }
        for (int round = 0; round < 3; round++) {
            int nodes = 10 + chance.nextInt(75);
            for (int i = 0; i < nodes; i++) {
                tellOne();
            }
            for (int i = 0; i < 12; i++) {
                int count = oracle.told(0);
                int node = chance.nextInt(20) == 0 ? any(WILD) : Math.max(0, count - 1 - chance.nextInt(25));
                same("run(" + node + ")", rules.run(node), oracle.run(node));
                look();
            }
            lookAtThings();
            if (chance.nextInt(3) > 0) {
                same("clear()", rules.clear(), oracle.clear());
                look();
            }
        }
    }

    // Near the edges of 64 bits, which no NUMBER reaches by itself.
    private void growNumbers() {
        int variable = chance.nextInt(8);
        int start = tell(3, variable, tell(0, any(NUMBERS), 0, 0, 0), 0, 0);
        int get = tell(2, variable, 0, 0, 0);
        int twice = tell(3, variable, tell(6, get, get, 0, 0), 0, 0);
        int doublings = chance.nextInt(64);
        for (int i = 0; i <= doublings; i++) {
            int node = i == 0 ? start : twice;
            same("run(" + node + ")", rules.run(node), oracle.run(node));
            look();
        }
    }

    private void tellOne() {
        int code = chance.nextInt(100) == 0 ? any(WILD) : chance.nextInt(27);
        if (oracle.told(0) < 6 && chance.nextInt(2) == 0) {
            code = new int[] {0, 0, 1, 2, 9}[chance.nextInt(5)];
        }
        int d = code == 26 && chance.nextInt(4) > 0 ? tellTwo() : part(code, 3);
        tell(code, part(code, 0), part(code, 1), part(code, 2), d);
    }

    private int tellTwo() {
        int first = tell(10, -1, likely(A_NUMBER), 0, 0);
        return tell(10, first, likely(A_NUMBER), 0, 0);
    }

    private int tell(int code, int a, int b, int c, int d) {
        int told = oracle.node(code, a, b, c, d);
        same("node(" + code + ", " + a + ", " + b + ", " + c + ", " + d + ")", rules.node(code, a, b, c, d), told);
        if (told >= 0) {
            comesTo[told] = COMES_TO[code];
        }
        return told;
    }

    private int part(int code, int which) {
        if (chance.nextInt(150) == 0) {
            return any(WILD);
        }
        switch (code * 4 + which) {
            case 0:
                return any(NUMBERS);
            case 2 * 4: case 3 * 4: case 21 * 4 + 1: case 25 * 4 + 2:
                return chance.nextInt(8);
            case 8 * 4:
                return new int[] {8, 10, 11, 9}[chance.nextInt(chance.nextInt(9) == 0 ? 4 : 3)];
            case 9 * 4: case 11 * 4: case 22 * 4:
                return 16 * (1 + chance.nextInt(3)) + chance.nextInt(12);
            case 18 * 4: case 19 * 4:
                return 16 * chance.nextInt(4) + chance.nextInt(12);
            case 9 * 4 + 2:
                return chance.nextInt(2) == 0 ? -1 : likely(A_NUMBER);
            case 9 * 4 + 3:
                return chance.nextInt(3) > 0 ? -1 : likely(A_NUMBER);
            case 10 * 4: case 11 * 4 + 1: case 22 * 4 + 1:
                return chance.nextInt(3) == 0 ? -1 : someList();
            case 26 * 4 + 3:
                return someList();
            case 12 * 4: case 13 * 4: case 14 * 4: case 15 * 4: case 16 * 4: case 17 * 4: case 21 * 4: case 26 * 4:
            case 26 * 4 + 2:
                return likely(AN_ARRAY);
            case 6 * 4: case 6 * 4 + 1: case 7 * 4: case 7 * 4 + 1: case 9 * 4 + 1: case 13 * 4 + 1:
            case 14 * 4 + 1: case 15 * 4 + 1: case 15 * 4 + 2: case 16 * 4 + 1: case 24 * 4: case 26 * 4 + 1:
                return likely(A_NUMBER);
            default:
                return someNode();
        }
    }

    private int likely(int kind) {
        int node = someNode();
        for (int tries = 0; tries < 6 && comesTo[Math.min(node, 79)] != kind; tries++) {
            node = someNode();
        }
        return node;
    }

    private int someNode() {
        int count = oracle.told(0);
        return count == 0 ? 0 : chance.nextInt(count);
    }

    private int someList() {
        int count = oracle.told(0);
        for (int tries = 0; tries < 30 && count > 0; tries++) {
            int node = chance.nextInt(count);
            if (oracle.isList(node)) {
                return node;
            }
        }
        return -1;
    }

    private int any(int[] of) {
        return of[chance.nextInt(of.length)];
    }

    private void look() {
        same("value()", rules.value(), oracle.value());
        same("where()", rules.where(), oracle.where());
        same("worked()", rules.worked(), oracle.worked());
        same("notes()", rules.notes(), oracle.notes());
        int i = chance.nextInt(300) - 2;
        same("note(" + i + ")", rules.note(i), oracle.note(i));
        same("note(0)", rules.note(0), oracle.note(0));
        for (int variable = -1; variable <= 8; variable++) {
            same("has(" + variable + ")", rules.has(variable), oracle.has(variable));
            same("get(" + variable + ")", rules.get(variable), oracle.get(variable));
        }
        for (int what = -1; what <= 3; what++) {
            same("told(" + what + ")", rules.told(what), oracle.told(what));
        }
    }

    private void lookAtThings() {
        for (int thing = -1; thing <= oracle.told(1); thing++) {
            for (int what = -1; what <= 3; what++) {
                same("thing(" + thing + ", " + what + ")", rules.thing(thing, what), oracle.thing(thing, what));
            }
            int length = Math.max(0, Math.min(20, oracle.thing(thing, 1)));
            for (int i = -1; i <= length; i++) {
                same("element(" + thing + ", " + i + ")", rules.element(thing, i), oracle.element(thing, i));
                same("bits(" + thing + ", " + i + ")", rules.bits(thing, i), oracle.bits(thing, i));
            }
        }
    }

    private void same(String call, long got, long want) {
        due.is("run " + run + ": " + call, got, want);
    }
}
