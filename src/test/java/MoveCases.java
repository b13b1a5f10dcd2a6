/** The boundary cases of promise 4 (run) with CAST, IS and MOVE. */
final class MoveCases {
    private static final int NONE = Case.NONE;
    private static final int MOST = Integer.MAX_VALUE, LEAST = Integer.MIN_VALUE;

    // ---- CAST, IS

    static void promise04_cast_of_a_number_to_references_or_arrays_fails_9(Case c) {
        int zero = c.t.number(0);
        for (int type : new int[] {8, 9, 10, 11, 16, 23, 24, 27, 36, 59}) {
            c.fails(c.t.cast(type, zero), 9);
        }
        for (int base = 0; base < 8; base++) {
            c.comes(c.t.cast(base, zero), Case.NUMBER, 0);
        }
    }

    static void promise04_cast_of_null_stays_but_fails_9_of_numbers(Case c) {
        int nul = c.t.nul();
        for (int type : new int[] {8, 9, 10, 11, 16, 23, 24, 27, 36, 59}) {
            c.comes(c.t.cast(type, nul), Case.NULL, NONE);
        }
        for (int base = 0; base < 8; base++) {
            c.fails(c.t.cast(base, nul), 9);
        }
    }

    static void promise04_cast_of_a_thing_fails_5_if_not_sub_and_9_of_numbers(Case c) {
        int root = c.keep(0, c.t.instance(10));
        for (int type : new int[] {8, 9, 10}) {
            c.comes(c.t.cast(type, root), Case.THING, 0);
        }
        for (int type : new int[] {11, 16, 24, 26, 59}) {
            c.fails(c.t.cast(type, root), 5);
        }
        for (int base = 0; base < 8; base++) {
            c.fails(c.t.cast(base, root), 9);
        }
    }

    static void promise04_cast_of_arrays(Case c) {
        int leaves = c.keep(0, c.t.filled(27));
        int ints = c.keep(1, c.t.make(36, c.t.number(1), c.t.number(1)));
        for (int type : new int[] {8, 24, 25, 26, 27}) {
            c.comes(c.t.cast(type, leaves), Case.THING, 0);
        }
        for (int type : new int[] {9, 10, 11, 20, 40, 43}) {
            c.fails(c.t.cast(type, leaves), 5);
        }
        for (int type : new int[] {8, 24, 36}) {
            c.comes(c.t.cast(type, ints), Case.THING, 1);
        }
        for (int type : new int[] {9, 20, 25, 37, 40, 52}) {
            c.fails(c.t.cast(type, ints), 5);
        }
    }

    static void promise04_is_of_null_is_0_of_a_number_fails_9(Case c) {
        int nul = c.t.nul();
        int zero = c.t.number(0);
        c.keep(0, c.t.instance(8));
        for (int type : new int[] {8, 9, 10, 11, 16, 24, 59}) {
            c.comes(c.t.is(type, nul), Case.NUMBER, 0);
            c.fails(c.t.is(type, zero), 9);
        }
    }

    static void promise04_is_of_a_sub_type_is_1_of_another_0(Case c) {
        int root = c.keep(0, c.t.instance(10));
        int leaves = c.keep(1, c.t.filled(27));
        int[][] due = {
            {8, 1, 1}, {9, 1, 0}, {10, 1, 0}, {11, 0, 0}, {24, 0, 1}, {25, 0, 1}, {26, 0, 1}, {27, 0, 1}, {20, 0, 0}, {43, 0, 0},
        };
        for (int[] d : due) {
            c.comes(c.t.is(d[0], root), Case.NUMBER, d[1]);
            c.comes(c.t.is(d[0], leaves), Case.NUMBER, d[2]);
        }
    }

    // ---- MOVE

    private static int fourInts(Case c) {
        return c.keep(0, c.t.filled(20, c.t.number(10), c.t.number(11), c.t.number(12), c.t.number(13)));
    }

    private static int moved(Case c, int array, int y, int p, int n) {
        return c.t.move(array, c.t.number(y), array, c.t.number(p), c.t.number(n));
    }

    static void promise04_move_of_none_at_the_very_end_not_behind_it(Case c) {
        int array = fourInts(c);
        c.comes(moved(c, array, 4, 4, 0), Case.NUMBER, 0);
        c.comes(moved(c, array, 0, 0, 0), Case.NUMBER, 0);
        c.fails(moved(c, array, 5, 0, 0), 2);
        c.fails(moved(c, array, 0, 5, 0), 2);
        c.elements(0, 10, 11, 12, 13);
    }

    static void promise04_move_of_none_from_and_to_empty_arrays(Case c) {
        int none = c.keep(0, c.t.filled(27));
        c.comes(moved(c, none, 0, 0, 0), Case.NUMBER, 0);
        c.fails(moved(c, none, 0, 0, 1), 2);
        c.fails(moved(c, none, 1, 0, 0), 2);
        c.fails(moved(c, none, 0, 1, 0), 2);
    }

    static void promise04_move_up_to_the_last_of_x_not_one_more(Case c) {
        int array = fourInts(c);
        int to = c.keep(1, c.t.make(20, c.t.number(9)));
        int zero = c.t.number(0);
        c.comes(c.t.move(array, c.t.number(1), to, zero, c.t.number(3)), Case.NUMBER, 3);
        c.elements(1, 11, 12, 13, 0, 0, 0, 0, 0, 0);
        c.fails(c.t.move(array, c.t.number(1), to, zero, c.t.number(4)), 2);
        c.fails(c.t.move(array, c.t.number(2), to, zero, c.t.number(3)), 2);
        c.comes(c.t.move(array, zero, to, zero, c.t.number(4)), Case.NUMBER, 4);
        c.fails(c.t.move(array, zero, to, zero, c.t.number(5)), 2);
        c.elements(1, 10, 11, 12, 13, 0, 0, 0, 0, 0);
    }

    static void promise04_move_up_to_the_last_of_z_not_one_more(Case c) {
        int array = fourInts(c);
        int to = c.keep(1, c.t.make(20, c.t.number(3)));
        int zero = c.t.number(0);
        c.comes(c.t.move(array, zero, to, c.t.number(1), c.t.number(2)), Case.NUMBER, 2);
        c.elements(1, 0, 10, 11);
        c.fails(c.t.move(array, zero, to, c.t.number(1), c.t.number(3)), 2);
        c.fails(c.t.move(array, zero, to, c.t.number(2), c.t.number(2)), 2);
        c.fails(c.t.move(array, zero, to, zero, c.t.number(4)), 2);
        c.elements(1, 0, 10, 11);
        c.comes(c.t.move(array, zero, to, zero, c.t.number(3)), Case.NUMBER, 3);
        c.elements(1, 10, 11, 12);
    }

    static void promise04_move_y_p_or_n_below_0_fails_2(Case c) {
        int array = fourInts(c);
        for (int below : new int[] {-1, LEAST}) {
            c.fails(moved(c, array, below, 0, 1), 2);
            c.fails(moved(c, array, 0, below, 1), 2);
            c.fails(moved(c, array, 0, 0, below), 2);
            c.fails(moved(c, array, 1, 1, below), 2);
        }
        c.elements(0, 10, 11, 12, 13);
    }

    static void promise04_move_sums_that_go_round_fail_2(Case c) {
        int array = fourInts(c);
        c.fails(moved(c, array, 1, 0, MOST), 2);
        c.fails(moved(c, array, 0, 1, MOST), 2);
        c.fails(moved(c, array, MOST, 0, 1), 2);
        c.fails(moved(c, array, 0, MOST, 1), 2);
        c.fails(moved(c, array, MOST, MOST, MOST), 2);
        c.elements(0, 10, 11, 12, 13);
    }

    static void promise04_move_y_p_n_are_cut_to_int(Case c) {
        c.wide(1, (1L << 32) + 1);
        c.wide(2, 1L << 31);
        int array = fourInts(c);
        int one = c.t.get(1);
        int below = c.t.get(2);
        int zero = c.t.number(0);
        c.comes(c.t.move(array, one, array, zero, one), Case.NUMBER, 1);
        c.elements(0, 11, 11, 12, 13);
        c.comes(c.t.move(array, c.t.number(3), array, one, one), Case.NUMBER, 1);
        c.elements(0, 11, 13, 12, 13);
        c.fails(c.t.move(array, below, array, zero, zero), 2);
        c.fails(c.t.move(array, zero, array, below, zero), 2);
        c.fails(c.t.move(array, zero, array, zero, below), 2);
    }

    static void promise04_move_within_one_array_all_being_as_they_were(Case c) {
        int array = fourInts(c);
        c.comes(moved(c, array, 0, 1, 3), Case.NUMBER, 3);
        c.elements(0, 10, 10, 11, 12);
        c.comes(moved(c, array, 1, 0, 3), Case.NUMBER, 3);
        c.elements(0, 10, 11, 12, 12);
        c.comes(moved(c, array, 0, 0, 4), Case.NUMBER, 4);
        c.elements(0, 10, 11, 12, 12);
    }

    static void promise04_move_of_floats_and_doubles_keeps_their_bits(Case c) {
        c.wide(7, Long.MAX_VALUE);
        for (int base = 6; base < 8; base++) {
            int from = c.keep(0, c.t.filled(16 + base, c.t.get(7)));
            int zero = c.t.number(0);
            c.rules.run(c.t.add(from, zero, c.t.get(7)));
            int to = c.keep(1, c.t.make(16 + base, c.t.number(1)));
            c.comes(c.t.move(from, zero, to, zero, c.t.number(1)), Case.NUMBER, 1);
            int first = (int) c.rules.get(0);
            int second = (int) c.rules.get(1);
            c.is("element", c.rules.element(second, 0), Long.MAX_VALUE);
            c.is("bits", c.rules.bits(second, 0), c.rules.bits(first, 0));
        }
    }

    static void promise04_move_works_all_five_ahead_of_1_3_2(Case c) {
        int nul = c.t.note(1, c.t.nul());
        int minus = c.t.note(2, c.t.number(-1));
        int ints = c.t.note(3, c.t.make(20, c.t.number(1)));
        int longs = c.t.note(4, c.t.make(21, c.t.number(1)));
        c.fails(c.t.move(nul, minus, longs, minus, minus), 1);
        c.noted(1, 2, 4, 2, 2);
        c.fails(c.t.move(ints, minus, nul, minus, minus), 1);
        c.noted(3, 2, 1, 2, 2);
        c.fails(c.t.move(ints, minus, longs, minus, minus), 3);
        c.noted(3, 2, 4, 2, 2);
        c.fails(c.t.move(ints, minus, ints, minus, minus), 2);
        c.noted(3, 2, 3, 2, 2);
        int fail = c.t.fail();
        c.failsAt(c.t.move(nul, minus, nul, minus, fail), 7, fail);
    }

    static void promise04_move_fails_9_as_soon_as_a_part_is_of_the_wrong_kind(Case c) {
        int number = c.t.note(1, c.t.number(0));
        int nul = c.t.note(2, c.t.nul());
        int thing = c.t.note(3, c.t.instance(8));
        int array = c.t.note(4, c.t.make(20, c.t.number(1)));
        c.fails(c.t.move(number, number, array, number, number), 9);
        c.noted(1);
        c.fails(c.t.move(thing, number, array, number, number), 9);
        c.noted(3);
        c.fails(c.t.move(array, nul, array, number, number), 9);
        c.noted(4, 2);
        c.fails(c.t.move(array, number, number, number, number), 9);
        c.noted(4, 1, 1);
        c.fails(c.t.move(array, number, thing, number, number), 9);
        c.noted(4, 1, 3);
        c.fails(c.t.move(array, number, array, nul, number), 9);
        c.noted(4, 1, 4, 2);
        c.fails(c.t.move(array, number, array, number, nul), 9);
        c.noted(4, 1, 4, 1, 2);
    }

    static void promise04_move_between_bases_of_numbers_or_numbers_and_references_fails_3(Case c) {
        int zero = c.t.number(0);
        int ints = c.t.filled(20);
        for (int type : new int[] {16, 17, 18, 19, 21, 22, 23, 24, 36, 27}) {
            c.fails(c.t.move(ints, zero, c.t.filled(type), zero, zero), 3);
        }
        Case other = c.another();
        zero = other.t.number(0);
        for (int type : new int[] {24, 25, 27, 36, 43}) {
            other.fails(other.t.move(other.t.filled(type), zero, other.t.filled(20), zero, zero), 3);
        }
    }

    static void promise04_move_of_none_between_any_references(Case c) {
        int zero = c.t.number(0);
        for (int type : new int[] {24, 25, 26, 27, 36, 43, 59}) {
            c.comes(c.t.move(c.t.filled(type), zero, c.t.filled(27), zero, zero), Case.NUMBER, 0);
        }
    }

    static void promise04_move_of_null_to_any_references(Case c) {
        int zero = c.t.number(0);
        int one = c.t.number(1);
        c.comes(c.t.move(c.t.make(24, one), zero, c.t.make(59, one), zero, one), Case.NUMBER, 1);
        int leaf = c.keep(0, c.t.filled(27, c.t.instance(11)));
        c.comes(c.t.move(c.t.make(24, one), zero, leaf, zero, one), Case.NUMBER, 1);
        c.elements(2, NONE);
    }

    static void promise04_move_of_a_wrong_thing_fails_3_those_before_it_stand_there(Case c) {
        int zero = c.t.number(0);
        int four = c.t.number(4);
        int leaf = c.t.instance(11);
        int from = c.keep(0, c.t.filled(24, leaf, c.t.nul(), c.t.instance(10), leaf));
        int to = c.keep(1, c.t.filled(27, leaf, leaf, leaf, leaf));
        c.fails(c.t.move(from, zero, to, zero, four), 3);
        c.elements(4, 1, NONE, 7, 8);
        c.fails(c.t.move(from, c.t.number(2), to, zero, c.t.number(2)), 3);
        c.elements(4, 1, NONE, 7, 8);
        c.comes(c.t.move(from, c.t.number(3), to, c.t.number(3), c.t.number(1)), Case.NUMBER, 1);
        c.elements(4, 1, NONE, 7, 3);
        c.fails(c.t.move(from, zero, to, c.t.number(1), c.t.number(3)), 3);
        c.elements(4, 1, 1, NONE, 3);
    }

    static void promise04_move_a_wrong_thing_outside_of_what_is_moved_does_not_matter(Case c) {
        int root = c.t.instance(10);
        int from = c.keep(0, c.t.filled(24, root, c.t.instance(11), root));
        int one = c.t.number(1);
        c.comes(c.t.move(from, one, c.t.make(27, c.t.number(1)), c.t.number(0), one), Case.NUMBER, 1);
        c.elements(4, 2);
    }

    static void promise04_move_2_comes_ahead_of_the_3_of_a_wrong_thing(Case c) {
        int from = c.keep(0, c.t.filled(24, c.t.instance(10)));
        int zero = c.t.number(0);
        c.fails(c.t.move(from, zero, c.t.make(27, c.t.number(2)), zero, c.t.number(2)), 2);
        c.fails(c.t.move(from, zero, c.t.make(27, c.t.number(2)), zero, c.t.number(1)), 3);
    }
}
