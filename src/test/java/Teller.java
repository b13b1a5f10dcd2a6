/** Tells NODES by their names; each call answers the number of the NODE. */
final class Teller {
    static final int NONE = ArrayRules.NONE;
    static final int BOOLEAN = 0, BYTE = 1, CHAR = 2, SHORT = 3, INT = 4, LONG = 5, FLOAT = 6, DOUBLE = 7;
    static final int OBJECT = 8, NAMED = 9, ROOT = 10, LEAF = 11, DIM = 16;

    final ArrayRules rules = new ArrayRules();

    private int tell(int code, int a, int b, int c, int d) {
        int told = rules.node(code, a, b, c, d);
        if (told < 0) {
            throw new IllegalStateException("node(" + code + ", " + a + ", " + b + ", " + c + ", " + d + "): " + told);
        }
        return told;
    }

    int number(int n) { return tell(0, n, -9, -9, -9); }

    int nul() { return tell(1, -9, -9, -9, -9); }

    int get(int variable) { return tell(2, variable, -9, -9, -9); }

    int set(int variable, int y) { return tell(3, variable, y, -9, -9); }

    int note(int n, int y) { return tell(4, n, y, -9, -9); }

    int fail() { return tell(5, -9, -9, -9, -9); }

    int plus(int x, int y) { return tell(6, x, y, -9, -9); }

    int over(int x, int y) { return tell(7, x, y, -9, -9); }

    int instance(int type) { return tell(8, type, -9, -9, -9); }

    int make(int type, int size) { return tell(9, type, size, NONE, NONE); }

    int make(int type, int size, int second) { return tell(9, type, size, second, NONE); }

    int make(int type, int size, int second, int third) { return tell(9, type, size, second, third); }

    int list(int... nodes) {
        int list = NONE;
        for (int node : nodes) {
            list = tell(10, list, node, -9, -9);
        }
        return list;
    }

    int filled(int type, int... nodes) { return tell(11, type, list(nodes), -9, -9); }

    int length(int x) { return tell(12, x, -9, -9, -9); }

    int at(int x, int y) { return tell(13, x, y, -9, -9); }

    int put(int x, int y, int z) { return tell(14, x, y, z, -9); }

    int add(int x, int y, int z) { return tell(15, x, y, z, -9); }

    int step(int x, int y) { return tell(16, x, y, -9, -9); }

    int copy(int x) { return tell(17, x, -9, -9, -9); }

    int cast(int type, int y) { return tell(18, type, y, -9, -9); }

    int is(int type, int y) { return tell(19, type, y, -9, -9); }

    int same(int x, int y) { return tell(20, x, y, -9, -9); }

    int each(int x, int variable, int z) { return tell(21, x, variable, z, -9); }

    int varied(int type, int... nodes) { return tell(22, type, list(nodes), -9, -9); }

    int then(int x, int y) { return tell(23, x, y, -9, -9); }

    int choose(int x, int y, int z) { return tell(24, x, y, z, -9); }

    int caught(int x, int y, int variable) { return tell(25, x, y, variable, -9); }

    int move(int x, int y, int z, int p, int n) { return tell(26, x, y, z, list(p, n)); }

    /** A NODE that gets number * 2^shifts out of VARIABLE 5: one NODE can't tell more than 32 bits. */
    int big(int number, int shifts) {
        rules.run(set(5, number(number)));
        int big = get(5);
        int twice = set(5, plus(big, big));
        for (int i = 0; i < shifts; i++) {
            rules.run(twice);
        }
        return big;
    }
}
