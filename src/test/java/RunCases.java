/** The boundary cases of promise 4 (run) with the CODES that make no ARRAYS, and of what one run may do. */
final class RunCases {
    private static final int NONE = Case.NONE, OUTSIDE = Case.OUTSIDE;
    private static final int MOST = Integer.MAX_VALUE, LEAST = Integer.MIN_VALUE;

    // ---- the call itself

    static void promise04_run_of_the_first_and_the_last_node_not_of_the_next(Case c) {
        c.t.number(11);
        c.t.number(12);
        c.comes(0, Case.NUMBER, 11);
        c.comes(1, Case.NUMBER, 12);
        for (int none : new int[] {-1, 2, 79, 80, MOST, LEAST, NONE, OUTSIDE}) {
            c.runRefused(none);
        }
    }

    static void promise04_run_of_the_80th_node(Case c) {
        c.fillNodes(79);
        c.runRefused(79);
        c.t.number(3);
        c.comes(79, Case.NUMBER, 3);
        c.runRefused(80);
    }

    static void promise04_run_outside_leaves_the_latest_run_as_it_was(Case c) {
        int array = c.t.filled(23, c.t.number(2));
        c.failsAt(c.t.note(5, c.t.then(c.t.set(2, array), c.t.fail())), 7, 4);
        c.runRefused(c.rules.told(0));
        c.runRefused(-1);
        c.noted(5);
        c.is("worked()", c.rules.worked(), 6);
        c.is("where()", c.rules.where(), 4);
    }

    static void promise04_run_answers_0_a_number_1_null_2_a_thing(Case c) {
        c.is("0", c.rules.run(c.t.number(0)), 0);
        c.is("-1, which is also NONE", c.rules.run(c.t.number(-1)), 0);
        c.is("-17, which is also a failing", c.rules.run(c.t.number(-17)), 0);
        c.is("NULL", c.rules.run(c.t.nul()), 1);
        c.is("an INSTANCE", c.rules.run(c.t.instance(8)), 2);
        c.is("an empty ARRAY", c.rules.run(c.t.filled(20)), 2);
    }

    static void promise04_run_answers_minus_10_less_each_number_of_1_to_10(Case c) {
        int zero = c.t.number(0);
        int nul = c.t.nul();
        int none = c.t.filled(20);
        c.is("1", c.rules.run(c.t.length(nul)), -11);
        c.is("2", c.rules.run(c.t.at(none, zero)), -12);
        c.is("3", c.rules.run(c.t.filled(27, c.t.instance(10))), -13);
        c.is("4", c.rules.run(c.t.make(20, c.t.number(-1))), -14);
        c.is("5", c.rules.run(c.t.cast(11, c.t.instance(10))), -15);
        c.is("6", c.rules.run(c.t.make(20, c.t.number(4001))), -16);
        c.is("7", c.rules.run(c.t.fail()), -17);
        c.is("8", c.rules.run(c.t.over(zero, zero)), -18);
        c.is("9", c.rules.run(c.t.plus(nul, zero)), -19);
        c.is("10", c.rules.run(c.t.each(c.t.make(16, c.t.number(2999)), 0, zero)), -20);
    }

    static void promise04_run_begins_with_an_empty_trace(Case c) {
        c.rules.run(c.t.note(1, c.t.note(2, c.t.number(0))));
        c.noted(1, 2);
        c.rules.run(c.t.note(3, c.t.number(0)));
        c.noted(3);
        c.is("note(1)", c.rules.note(1), OUTSIDE);
        c.rules.run(c.t.number(0));
        c.noted();
        c.is("note(0)", c.rules.note(0), OUTSIDE);
    }

    static void promise04_run_leaves_what_was_set_and_made_ahead_of_a_failing(Case c) {
        int array = c.t.set(1, c.t.make(20, c.t.number(2)));
        int put = c.t.put(array, c.t.number(1), c.t.number(6));
        int fail = c.t.fail();
        c.failsAt(c.t.then(put, fail), 7, fail);
        c.is("has(1)", c.rules.has(1), Case.THING);
        c.told(1, 2);
        c.elements(0, 0, 6);
    }

    static void promise04_run_of_a_list_by_itself_fails_9(Case c) {
        int one = c.t.note(1, c.t.number(1));
        int list = c.t.list(one);
        c.fails(list, 9);
        c.noted();
        c.is("worked()", c.rules.worked(), 0);
        int longer = c.t.list(one, one);
        c.fails(longer, 9);
        c.failsAt(c.t.then(list, one), 9, list);
        c.noted();
        c.failsAt(c.t.then(one, list), 9, list);
        c.noted(1);
    }

    static void promise04_run_the_512th_call_still_answers(Case c) {
        c.rules.node(0, 1, 0, 0, 0);
        c.rules.node(2, 0, 0, 0, 0);
        c.rules.node(6, 0, 1, 0, 0);
        c.rules.node(3, 0, 2, 0, 0);
        for (int call = 5; call <= 511; call++) {
            c.rules.run(3);
        }
        c.is("get(0)", c.rules.get(0), 507);
    }

    // ---- NUMBER, GET, SET, NOTE, FAIL

    static void promise04_number_the_least_and_the_greatest_of_32_bits(Case c) {
        c.comes(c.t.number(LEAST), Case.NUMBER, -2147483648L);
        c.comes(c.t.number(MOST), Case.NUMBER, 2147483647L);
        c.comes(c.t.number(0), Case.NUMBER, 0);
        c.comes(c.t.number(-1), Case.NUMBER, -1);
    }

    static void promise04_get_and_set_of_variables_0_and_7(Case c) {
        c.comes(c.t.get(0), Case.NUMBER, 0);
        c.comes(c.t.get(7), Case.NUMBER, 0);
        c.comes(c.t.set(0, c.t.number(5)), Case.NUMBER, 5);
        c.comes(c.t.set(7, c.t.nul()), Case.NULL, NONE);
        c.comes(c.t.get(0), Case.NUMBER, 5);
        c.comes(c.t.get(7), Case.NULL, NONE);
        for (int between = 1; between < 7; between++) {
            c.is("get(" + between + ")", c.rules.get(between), 0);
        }
    }

    static void promise04_set_whose_y_fails_leaves_the_variable(Case c) {
        c.rules.run(c.t.set(3, c.t.number(8)));
        int fail = c.t.fail();
        c.failsAt(c.t.set(3, fail), 7, fail);
        c.is("get(3)", c.rules.get(3), 8);
    }

    static void promise04_note_comes_ahead_of_its_y(Case c) {
        int fail = c.t.fail();
        c.failsAt(c.t.note(1, c.t.note(2, fail)), 7, fail);
        c.noted(1, 2);
    }

    static void promise04_note_of_the_least_the_greatest_and_of_the_answers_for_refused_calls(Case c) {
        c.rules.run(c.t.note(LEAST, c.t.note(MOST, c.t.note(NONE, c.t.note(OUTSIDE, c.t.number(0))))));
        c.noted(LEAST, MOST, NONE, OUTSIDE);
    }

    static void promise04_fail_fails_7_and_nothing_behind_it_is_worked(Case c) {
        int fail = c.t.fail();
        c.fails(fail, 7);
        c.is("worked()", c.rules.worked(), 1);
        int noted = c.t.note(1, c.t.number(0));
        c.failsAt(c.t.plus(fail, noted), 7, fail);
        c.noted();
        c.failsAt(c.t.then(noted, c.t.plus(fail, noted)), 7, fail);
        c.noted(1);
    }

    // ---- PLUS, OVER

    static void promise04_plus_goes_round_at_64_bits_not_at_32(Case c) {
        c.wide(0, Long.MAX_VALUE);
        c.wide(1, Long.MIN_VALUE);
        int greatest = c.t.get(0);
        int least = c.t.get(1);
        int one = c.t.number(1);
        c.comes(c.t.plus(greatest, one), Case.NUMBER, Long.MIN_VALUE);
        c.comes(c.t.plus(least, c.t.number(-1)), Case.NUMBER, Long.MAX_VALUE);
        c.comes(c.t.plus(least, least), Case.NUMBER, 0);
        c.comes(c.t.plus(greatest, greatest), Case.NUMBER, -2);
        c.comes(c.t.plus(greatest, least), Case.NUMBER, -1);
        c.comes(c.t.plus(c.t.number(MOST), one), Case.NUMBER, 2147483648L);
        c.comes(c.t.plus(c.t.number(LEAST), c.t.number(-1)), Case.NUMBER, -2147483649L);
    }

    static void promise04_plus_of_a_reference_fails_9_as_soon_as_that_part_was_worked(Case c) {
        int number = c.t.note(1, c.t.number(1));
        int nul = c.t.note(2, c.t.nul());
        int thing = c.t.note(3, c.t.instance(8));
        c.fails(c.t.plus(nul, number), 9);
        c.noted(2);
        c.fails(c.t.plus(number, nul), 9);
        c.noted(1, 2);
        c.fails(c.t.plus(thing, number), 9);
        c.noted(3);
        c.fails(c.t.plus(number, thing), 9);
        c.noted(1, 3);
    }

    static void promise04_over_is_cut_off_toward_0(Case c) {
        int[][] due = {
            {7, 2, 3}, {-7, 2, -3}, {7, -2, -3}, {-7, -2, 3}, {1, 2, 0}, {-1, 2, 0}, {0, 5, 0}, {0, -5, 0}, {6, 6, 1},
        };
        for (int[] d : due) {
            c.comes(c.t.over(c.t.number(d[0]), c.t.number(d[1])), Case.NUMBER, d[2]);
        }
    }

    static void promise04_over_0_fails_8_over_1_and_minus_1_do_not(Case c) {
        int five = c.t.number(5);
        int zero = c.t.number(0);
        c.fails(c.t.over(five, zero), 8);
        c.fails(c.t.over(zero, zero), 8);
        c.comes(c.t.over(five, c.t.number(1)), Case.NUMBER, 5);
        c.comes(c.t.over(five, c.t.number(-1)), Case.NUMBER, -5);
    }

    static void promise04_over_looks_at_all_64_bits_for_0(Case c) {
        c.wide(0, 1L << 32);
        int wide = c.t.get(0);
        c.comes(c.t.over(wide, wide), Case.NUMBER, 1);
        c.comes(c.t.over(c.t.number(7), wide), Case.NUMBER, 0);
    }

    static void promise04_over_the_least_over_minus_1_goes_round(Case c) {
        c.wide(0, Long.MIN_VALUE);
        c.comes(c.t.over(c.t.get(0), c.t.number(-1)), Case.NUMBER, Long.MIN_VALUE);
        c.comes(c.t.over(c.t.number(LEAST), c.t.number(-1)), Case.NUMBER, 2147483648L);
    }

    static void promise04_over_of_a_reference_fails_9_ahead_of_8(Case c) {
        int zero = c.t.note(1, c.t.number(0));
        int nul = c.t.note(2, c.t.nul());
        c.fails(c.t.over(nul, zero), 9);
        c.noted(2);
        c.fails(c.t.over(zero, nul), 9);
        c.noted(1, 2);
        c.fails(c.t.over(zero, c.t.instance(8)), 9);
    }

    // ---- SAME

    static void promise04_same_of_numbers_looks_at_all_64_bits(Case c) {
        c.wide(0, 1L << 32);
        c.wide(1, Long.MIN_VALUE);
        int zero = c.t.number(0);
        c.comes(c.t.same(zero, zero), Case.NUMBER, 1);
        c.comes(c.t.same(zero, c.t.get(0)), Case.NUMBER, 0);
        c.comes(c.t.same(c.t.get(1), zero), Case.NUMBER, 0);
        c.comes(c.t.same(c.t.get(1), c.t.get(1)), Case.NUMBER, 1);
        c.comes(c.t.same(c.t.number(-1), c.t.number(1)), Case.NUMBER, 0);
    }

    static void promise04_same_of_references(Case c) {
        int first = c.keep(0, c.t.instance(8));
        int second = c.keep(1, c.t.instance(8));
        int nul = c.t.nul();
        c.comes(c.t.same(nul, nul), Case.NUMBER, 1);
        c.comes(c.t.same(first, first), Case.NUMBER, 1);
        c.comes(c.t.same(first, second), Case.NUMBER, 0);
        c.comes(c.t.same(first, nul), Case.NUMBER, 0);
        c.comes(c.t.same(nul, second), Case.NUMBER, 0);
    }

    static void promise04_same_of_a_number_and_a_reference_fails_9_when_both_were_worked(Case c) {
        int thing = c.t.note(1, c.keep(0, c.t.instance(8)));
        int nul = c.t.note(2, c.t.nul());
        int zero = c.t.note(3, c.t.number(0));
        int minus = c.t.note(4, c.t.number(-1));
        c.fails(c.t.same(thing, zero), 9);
        c.noted(1, 3);
        c.fails(c.t.same(zero, thing), 9);
        c.noted(3, 1);
        c.fails(c.t.same(nul, minus), 9);
        c.noted(2, 4);
        c.fails(c.t.same(minus, nul), 9);
        c.noted(4, 2);
    }

    // ---- THEN, IF

    static void promise04_then_works_both_and_stops_at_what_fails(Case c) {
        int first = c.t.note(1, c.t.nul());
        int second = c.t.note(2, c.t.number(4));
        int fail = c.t.note(3, c.t.fail());
        c.comes(c.t.then(first, second), Case.NUMBER, 4);
        c.noted(1, 2);
        c.comes(c.t.then(second, first), Case.NULL, NONE);
        c.is("run", c.rules.run(c.t.then(fail, second)), -17);
        c.noted(3);
    }

    static void promise04_if_0_is_the_only_number_that_takes_z(Case c) {
        c.wide(0, 1L << 32);
        c.wide(1, Long.MIN_VALUE);
        int yes = c.t.note(1, c.t.number(10));
        int no = c.t.note(2, c.t.number(20));
        for (int x : new int[] {c.t.number(1), c.t.number(-1), c.t.get(0), c.t.get(1), c.t.number(256)}) {
            c.comes(c.t.choose(x, yes, no), Case.NUMBER, 10);
            c.noted(1);
        }
        c.comes(c.t.choose(c.t.number(0), yes, no), Case.NUMBER, 20);
        c.noted(2);
    }

    static void promise04_if_of_a_reference_fails_9_and_works_neither(Case c) {
        int noted = c.t.note(1, c.t.number(0));
        c.fails(c.t.choose(c.t.nul(), noted, noted), 9);
        c.noted();
        c.fails(c.t.choose(c.t.instance(8), noted, noted), 9);
        c.noted();
    }

    // ---- CATCH

    static void promise04_catch_takes_each_number_of_1_to_9(Case c) {
        int zero = c.t.number(0);
        int nul = c.t.nul();
        int seen = c.t.get(7);
        int root = c.t.instance(10);
        int[] failing = {
            c.t.length(nul), c.t.at(c.t.filled(20), zero), c.t.filled(27, root), c.t.make(20, c.t.number(-1)),
            c.t.cast(11, root), c.t.make(20, c.t.number(4001)), c.t.fail(), c.t.over(zero, zero), c.t.plus(nul, zero),
        };
        for (int number = 1; number <= 9; number++) {
            c.comes(c.t.caught(failing[number - 1], seen, 7), Case.NUMBER, number);
            c.is("get(7)", c.rules.get(7), number);
        }
    }

    static void promise04_catch_of_what_does_not_fail_leaves_its_variable_and_y(Case c) {
        c.rules.run(c.t.set(1, c.t.nul()));
        int noted = c.t.note(1, c.t.fail());
        c.comes(c.t.caught(c.t.number(0), noted, 1), Case.NUMBER, 0);
        c.noted();
        c.is("has(1)", c.rules.has(1), Case.NULL);
    }

    static void promise04_catch_does_not_take_what_its_own_y_fails_with(Case c) {
        int fail = c.t.fail();
        int over = c.t.over(fail, fail);
        int zero = c.t.number(0);
        int second = c.t.over(zero, zero);
        c.failsAt(c.t.caught(over, second, 1), 8, second);
        c.is("get(1)", c.rules.get(1), 7);
        c.comes(c.t.caught(c.t.caught(over, second, 1), zero, 2), Case.NUMBER, 0);
        c.is("get(1)", c.rules.get(1), 7);
        c.is("get(2)", c.rules.get(2), 8);
    }

    private static int catching(Case c, int times, int caught) {
        return c.t.each(c.t.make(16, c.t.number(times)), 0, caught);
    }

    static void promise04_catch_takes_40_in_one_run(Case c) {
        int caught = c.t.caught(c.t.fail(), c.t.note(1, c.t.number(6)), 1);
        c.comes(catching(c, 40, caught), Case.NUMBER, 40);
        c.is("notes()", c.rules.notes(), 40);
        c.is("get(1)", c.rules.get(1), 7);
    }

    static void promise04_catch_the_41st_fails_10_itself(Case c) {
        int caught = c.t.caught(c.t.fail(), c.t.note(1, c.t.set(1, c.t.nul())), 1);
        c.failsAt(catching(c, 41, caught), 10, caught);
        c.is("notes(): its y is not worked", c.rules.notes(), 40);
        c.is("has(1): its VARIABLE is left", c.rules.has(1), Case.NULL);
    }

    static void promise04_catch_the_41st_one_is_counted_over_all_catches_of_a_run(Case c) {
        int fail = c.t.fail();
        int zero = c.t.number(0);
        int first = c.t.caught(fail, zero, 1);
        int other = c.t.caught(fail, zero, 2);
        c.comes(c.t.then(catching(c, 39, first), other), Case.NUMBER, 0);
        c.is("get(2)", c.rules.get(2), 7);
        c.failsAt(c.t.then(catching(c, 40, first), other), 10, other);
    }

    static void promise04_catch_does_not_count_those_whose_x_does_not_fail(Case c) {
        int fine = c.t.caught(c.t.number(1), c.t.fail(), 1);
        int taken = c.t.caught(c.t.fail(), c.t.number(2), 1);
        c.comes(c.t.then(catching(c, 41, fine), catching(c, 40, taken)), Case.NUMBER, 40);
        c.comes(c.t.then(catching(c, 40, taken), fine), Case.NUMBER, 1);
    }

    static void promise04_catch_counts_anew_in_each_run(Case c) {
        int caught = c.t.caught(c.t.fail(), c.t.number(6), 1);
        int forty = catching(c, 40, caught);
        c.comes(forty, Case.NUMBER, 40);
        c.comes(forty, Case.NUMBER, 40);
        c.failsAt(catching(c, 41, caught), 10, caught);
        c.comes(forty, Case.NUMBER, 40);
    }

    static void promise04_catch_does_not_take_the_10_of_another_catch(Case c) {
        int caught = c.t.caught(c.t.fail(), c.t.number(6), 1);
        int outer = c.t.caught(catching(c, 41, caught), c.t.note(1, c.t.number(5)), 2);
        c.failsAt(outer, 10, caught);
        c.noted();
        c.is("get(2)", c.rules.get(2), 0);
    }

    // ---- 3000 NODES

    /** A NODE that is worked with as many NODES as are told, four at least. */
    private static int working(Case c, int nodes) {
        return c.t.each(c.t.make(16, c.t.number(nodes - 3)), 0, c.t.number(1));
    }

    static void promise04_run_works_3000_nodes(Case c) {
        c.comes(working(c, 2999), Case.NUMBER, 2996);
        c.is("worked()", c.rules.worked(), 2999);
        Case most = c.another();
        most.comes(working(most, 3000), Case.NUMBER, 2997);
        most.is("worked()", most.rules.worked(), 3000);
    }

    static void promise04_run_with_the_3001st_node_fails_10(Case c) {
        int run = working(c, 3001);
        c.failsAt(run, 10, 2);
        c.is("worked()", c.rules.worked(), 3000);
    }

    static void promise04_run_with_the_3001st_node_leaves_what_was_done_before(Case c) {
        int count = c.t.set(1, c.t.plus(c.t.get(1), c.t.number(1)));
        int loop = c.t.each(c.t.make(16, c.t.number(1000)), 0, count);
        c.is("run", c.rules.run(loop), -20);
        c.is("get(1)", c.rules.get(1), 749);
        c.told(1, 1000);
        c.comes(c.t.number(3), Case.NUMBER, 3);
    }

    static void promise04_run_catch_does_not_take_the_10_of_3001_nodes(Case c) {
        int caught = c.t.caught(working(c, 3001), c.t.note(1, c.t.number(5)), 2);
        c.failsAt(caught, 10, 2);
        c.noted();
        c.is("get(2)", c.rules.get(2), 0);
    }

    static void promise04_run_a_catch_counts_among_the_3000(Case c) {
        int caught = c.t.caught(working(c, 2999), c.t.fail(), 2);
        c.comes(caught, Case.NUMBER, 2996);
        c.is("worked()", c.rules.worked(), 3000);
    }

    static void promise04_run_counts_a_lists_nodes_not_lists(Case c) {
        int one = c.t.number(1);
        int filled = c.t.filled(20, one, one, one);
        c.comes(filled, Case.THING, 0);
        c.is("worked()", c.rules.worked(), 4);
        Case full = c.another();
        one = full.t.number(1);
        int behind = full.t.filled(20, one, one);
        full.comes(full.t.then(working(full, 2996), behind), Case.THING, 1);
        full.is("worked()", full.rules.worked(), 3000);
        Case over = c.another();
        one = over.t.number(1);
        behind = over.t.filled(20, one, one);
        over.failsAt(over.t.then(working(over, 2997), behind), 10, one);
        over.is("worked()", over.rules.worked(), 3000);
        over.elements(1, 1, 0);
    }

    static void promise04_run_counts_the_two_nodes_of_a_moves_list(Case c) {
        int array = c.keep(0, c.t.make(20, c.t.number(2)));
        int zero = c.t.number(0);
        c.comes(c.t.move(array, zero, array, zero, zero), Case.NUMBER, 0);
        c.is("worked()", c.rules.worked(), 6);
    }

    static void promise04_run_counts_anew_in_each_run(Case c) {
        int loop = c.t.each(c.keep(1, c.t.make(16, c.t.number(2998))), 0, c.t.number(1));
        c.comes(loop, Case.NUMBER, 2998);
        c.is("worked()", c.rules.worked(), 3000);
        c.comes(loop, Case.NUMBER, 2998);
        c.is("worked()", c.rules.worked(), 3000);
    }

    static void promise04_run_80_nodes_deep(Case c) {
        int sum = c.t.number(1);
        while (c.rules.told(0) < 80) {
            sum = c.t.plus(sum, 0);
        }
        c.comes(79, Case.NUMBER, 80);
        c.is("worked()", c.rules.worked(), 159);
    }

    private static final int NEXT = -9;

    // CODES with their parts: NODE 0 gets an ARRAY, 1 is the number 0, 2 the number 6, 3 FAILS, 5 is a LIST of two.
    private static final int[][] CHAINS = {
        {3, 0, NEXT, 0, 0}, {4, 5, NEXT, 0, 0}, {6, NEXT, 1, 0, 0}, {6, 1, NEXT, 0, 0}, {7, NEXT, 2, 0, 0},
        {7, 2, NEXT, 0, 0}, {9, 52, NEXT, NONE, NONE}, {9, 52, 1, NEXT, NONE}, {9, 52, 1, 1, NEXT},
        {12, NEXT, 0, 0, 0}, {13, NEXT, 1, 0, 0}, {13, 0, NEXT, 0, 0}, {14, NEXT, 1, 1, 0}, {14, 0, NEXT, 1, 0},
        {14, 0, 1, NEXT, 0}, {15, NEXT, 1, 1, 0}, {15, 0, NEXT, 1, 0}, {15, 0, 1, NEXT, 0}, {16, NEXT, 1, 0, 0},
        {16, 0, NEXT, 0, 0}, {17, NEXT, 0, 0, 0}, {18, 4, NEXT, 0, 0}, {19, 8, NEXT, 0, 0}, {20, NEXT, 1, 0, 0},
        {20, 1, NEXT, 0, 0}, {21, NEXT, 2, 1, 0}, {21, 0, 2, NEXT, 0}, {23, NEXT, 1, 0, 0}, {23, 1, NEXT, 0, 0},
        {24, NEXT, 1, 1, 0}, {24, 2, NEXT, 1, 0}, {24, 1, 1, NEXT, 0}, {25, NEXT, 1, 3, 0}, {25, 3, NEXT, 4, 0},
        {26, NEXT, 1, 0, 5}, {26, 0, NEXT, 0, 5}, {26, 0, 1, NEXT, 5},
    };

    private static int tellWith(Case c, int[] chain, int next) {
        int[] p = chain.clone();
        for (int i = 1; i < 5; i++) {
            p[i] = p[i] == NEXT ? next : p[i];
        }
        return c.rules.node(p[0], p[1], p[2], p[3], p[4]);
    }

    /** Only 40 of a chain of CATCHES whose x FAIL are taken: sums stand within those. */
    static void promise04_run_as_deep_as_80_nodes_allow_by_each_part_of_each_code(Case c) {
        for (int[] chain : CHAINS) {
            Case one = c.another();
            one.keep(1, one.t.make(20, one.t.number(1)));
            one.comes(one.t.set(7, one.t.nul()), Case.NULL, NONE);
            one.rules.clear();
            one.t.get(1);
            int zero = one.t.number(0);
            one.t.number(6);
            one.t.fail();
            one.is("the LIST of two", one.t.list(zero, zero), 5);
            int node = one.t.set(7, zero);
            for (int told = 7; told < 80; told++) {
                boolean sum = chain[0] == 25 && chain[1] == 3 && told < 40;
                node = sum ? one.t.plus(node, zero) : tellWith(one, chain, node);
            }
            int answer = one.rules.run(79);
            String what = "CODE " + chain[0] + " with " + chain[1] + ", " + chain[2] + ", " + chain[3];
            one.is("run of " + what + " does not FAIL 10", answer == -20 ? 1 : 0, 0);
            one.is("the innermost of " + what + " was worked", one.rules.has(7), Case.NUMBER);
        }
    }
}
