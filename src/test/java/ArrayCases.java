/** The boundary cases of promise 4 (run) with the CODES that make ARRAYS and look into them. */
final class ArrayCases {
    private static final int NONE = Case.NONE;
    private static final int MOST = Integer.MAX_VALUE, LEAST = Integer.MIN_VALUE;

    // ---- NEW

    static void promise04_new_the_400th_thing_is_made_the_401st_fails_6(Case c) {
        c.keep(0, c.t.make(32, c.t.number(398), c.t.number(0)));
        int thing = c.t.instance(11);
        c.comes(thing, Case.THING, 399);
        c.fails(thing, 6);
        c.told(400, 398);
        c.is("thing(399, 0)", c.rules.thing(399, 0), 11);
        c.is("thing(400, 0)", c.rules.thing(400, 0), Case.OUTSIDE);
    }

    static void promise04_new_has_no_elements(Case c) {
        c.keep(0, c.t.make(16, c.t.number(4000)));
        c.comes(c.t.instance(8), Case.THING, 1);
        c.told(2, 4000);
    }

    // ---- MAKE: sizes

    static void promise04_make_size_0_is_made_size_minus_1_fails_4(Case c) {
        c.comes(c.t.make(20, c.t.number(0)), Case.THING, 0);
        c.elements(0);
        c.told(1, 0);
        c.fails(c.t.make(20, c.t.number(-1)), 4);
        c.fails(c.t.make(20, c.t.number(LEAST)), 4);
        c.told(1, 0);
        c.comes(c.t.make(20, c.t.number(1)), Case.THING, 1);
        c.elements(1, 0);
    }

    static void promise04_make_sizes_are_cut_to_int(Case c) {
        c.wide(0, 1L << 32);
        c.wide(1, (1L << 32) - 1);
        c.wide(2, 1L << 31);
        c.wide(3, -(1L << 32) + 2);
        c.comes(c.t.make(20, c.t.get(0)), Case.THING, 0);
        c.elements(0);
        c.fails(c.t.make(20, c.t.get(1)), 4);
        c.fails(c.t.make(20, c.t.get(2)), 4);
        c.comes(c.t.make(20, c.t.get(3)), Case.THING, 1);
        c.elements(1, 0, 0);
        c.comes(c.t.make(36, c.t.get(3), c.t.get(0)), Case.THING, 2);
        c.elements(2, 3, 4);
        c.elements(4);
    }

    static void promise04_make_all_sizes_are_worked_ahead_of_failing_4(Case c) {
        int minus = c.t.note(1, c.t.number(-1));
        int fine = c.t.note(2, c.t.number(1));
        c.fails(c.t.make(52, minus, fine, fine), 4);
        c.noted(1, 2, 2);
        c.fails(c.t.make(52, fine, minus, fine), 4);
        c.noted(2, 1, 2);
        c.fails(c.t.make(52, fine, fine, minus), 4);
        c.noted(2, 2, 1);
        c.fails(c.t.make(52, minus, fine), 4);
        c.noted(1, 2);
        c.fails(c.t.make(52, fine, minus), 4);
        c.noted(2, 1);
        c.told(0, 0);
    }

    static void promise04_make_a_size_below_0_fails_4_even_behind_a_size_of_0(Case c) {
        int zero = c.t.number(0);
        int minus = c.t.number(-1);
        c.fails(c.t.make(52, zero, minus, zero), 4);
        c.fails(c.t.make(52, zero, zero, minus), 4);
        c.fails(c.t.make(36, zero, minus), 4);
        c.told(0, 0);
    }

    static void promise04_make_4_comes_ahead_of_6(Case c) {
        int great = c.t.number(MOST);
        int minus = c.t.number(-1);
        c.fails(c.t.make(52, great, great, minus), 4);
        c.fails(c.t.make(52, great, minus, great), 4);
        c.fails(c.t.make(52, minus, great, great), 4);
        c.fails(c.t.make(52, great, great, great), 6);
    }

    static void promise04_make_of_what_fails_or_of_a_reference_comes_ahead_of_4(Case c) {
        int minus = c.t.note(1, c.t.number(-1));
        int nul = c.t.note(2, c.t.nul());
        int fail = c.t.fail();
        c.fails(c.t.make(52, minus, nul, fail), 9);
        c.noted(1, 2);
        c.fails(c.t.make(52, nul, minus, fail), 9);
        c.noted(2);
        c.fails(c.t.make(52, minus, minus, c.t.instance(8)), 9);
        c.noted(1, 1);
        c.failsAt(c.t.make(52, minus, minus, fail), 7, fail);
        c.noted(1, 1);
    }

    // ---- MAKE: room

    static void promise04_make_4000_elements_are_made_4001_fail_6(Case c) {
        c.fails(c.t.make(23, c.t.number(4001)), 6);
        c.told(0, 0);
        c.comes(c.t.make(23, c.t.number(4000)), Case.THING, 0);
        c.told(1, 4000);
        c.is("thing(0, 1)", c.rules.thing(0, 1), 4000);
        c.fails(c.t.make(20, c.t.number(1)), 6);
        c.comes(c.t.make(20, c.t.number(0)), Case.THING, 1);
        c.told(2, 4000);
    }

    static void promise04_make_the_last_element_that_is_left(Case c) {
        c.keep(0, c.t.make(16, c.t.number(3999)));
        c.fails(c.t.make(27, c.t.number(2)), 6);
        c.told(1, 3999);
        c.comes(c.t.make(27, c.t.number(1)), Case.THING, 1);
        c.elements(1, NONE);
        c.told(2, 4000);
        c.fails(c.t.make(27, c.t.number(1)), 6);
    }

    static void promise04_make_400_things_are_made_401_fail_6(Case c) {
        int zero = c.t.number(0);
        c.fails(c.t.make(32, c.t.number(400), zero), 6);
        c.told(0, 0);
        c.comes(c.t.make(32, c.t.number(399), zero), Case.THING, 0);
        c.told(400, 399);
        c.is("element(0, 398)", c.rules.element(0, 398), 399);
        c.fails(c.t.make(20, zero), 6);
        c.told(400, 399);
    }

    static void promise04_make_counts_the_things_of_three_sizes(Case c) {
        int zero = c.t.number(0);
        c.fails(c.t.make(48, c.t.number(20), c.t.number(19), zero), 6);
        c.fails(c.t.make(48, c.t.number(3), c.t.number(133), zero), 6);
        c.told(0, 0);
        c.comes(c.t.make(48, c.t.number(3), c.t.number(132), zero), Case.THING, 0);
        c.told(400, 399);
        c.is("element(0, 2)", c.rules.element(0, 2), 267);
        c.is("element(267, 131)", c.rules.element(267, 131), 399);
    }

    static void promise04_make_counts_the_elements_of_two_and_three_sizes(Case c) {
        c.fails(c.t.make(36, c.t.number(20), c.t.number(200)), 6);
        c.fails(c.t.make(36, c.t.number(1), c.t.number(4000)), 6);
        c.fails(c.t.make(52, c.t.number(1), c.t.number(1), c.t.number(3999)), 6);
        c.told(0, 0);
        c.comes(c.t.make(36, c.t.number(20), c.t.number(199)), Case.THING, 0);
        c.told(21, 4000);
        Case three = c.another();
        three.comes(three.t.make(52, three.t.number(1), three.t.number(1), three.t.number(3998)), Case.THING, 0);
        three.told(3, 4000);
    }

    static void promise04_make_sizes_whose_products_go_round_have_no_room(Case c) {
        int great = c.t.number(MOST);
        int half = c.t.number(65536);
        int quarter = c.t.number(1 << 22);
        c.fails(c.t.make(36, great, great), 6);
        c.fails(c.t.make(36, half, half), 6);
        c.fails(c.t.make(52, great, great, c.t.number(4)), 6);
        c.fails(c.t.make(52, quarter, quarter, c.t.number(1 << 20)), 6);
        c.fails(c.t.make(52, c.t.number(2), great, great), 6);
        c.fails(c.t.make(52, c.t.number(1), c.t.number(1), great), 6);
        c.fails(c.t.make(52, great, c.t.number(0), c.t.number(0)), 6);
        c.told(0, 0);
    }

    static void promise04_make_a_size_of_0_leaves_room_for_any_size_behind_it(Case c) {
        int zero = c.t.number(0);
        int great = c.t.number(MOST);
        c.comes(c.t.make(52, zero, great, great), Case.THING, 0);
        c.elements(0);
        c.told(1, 0);
        c.comes(c.t.make(52, c.t.number(2), zero, great), Case.THING, 1);
        c.elements(1, 2, 3);
        c.elements(2);
        c.elements(3);
        c.told(4, 2);
    }

    static void promise04_make_without_room_makes_nothing_at_all(Case c) {
        int zero = c.t.number(0);
        c.keep(0, c.t.make(32, c.t.number(396), zero));
        int three = c.t.make(48, c.t.number(1), c.t.number(2), zero);
        c.fails(three, 6);
        c.told(397, 396);
        int two = c.t.make(48, c.t.number(1), c.t.number(1), zero);
        c.comes(two, Case.THING, 397);
        c.told(400, 398);
    }

    static void promise04_make_two_sizes_when_elements_are_nearly_used_up(Case c) {
        c.keep(0, c.t.make(16, c.t.number(3990)));
        c.fails(c.t.make(36, c.t.number(1), c.t.number(10)), 6);
        c.fails(c.t.make(36, c.t.number(2), c.t.number(5)), 6);
        c.fails(c.t.make(52, c.t.number(1), c.t.number(1), c.t.number(9)), 6);
        c.told(1, 3990);
        c.comes(c.t.make(36, c.t.number(2), c.t.number(4)), Case.THING, 1);
        c.told(4, 4000);
        Case three = c.another();
        three.keep(0, three.t.make(16, three.t.number(3990)));
        three.comes(three.t.make(52, three.t.number(1), three.t.number(1), three.t.number(8)), Case.THING, 1);
        three.told(4, 4000);
    }

    /** So many THINGS and ELEMENTS are left then. */
    private static void leave(Case c, int things, int elements) {
        int inner = 398 - things;
        c.keep(0, c.t.make(32, c.t.number(inner), c.t.number(0)));
        c.keep(1, c.t.make(16, c.t.number(4000 - inner - elements)));
        c.told(400 - things, 4000 - elements);
    }

    static void promise04_make_the_first_size_takes_the_last_elements(Case c) {
        leave(c, 3, 3);
        c.fails(c.t.make(36, c.t.number(3), c.t.number(0)), 6);
        c.fails(c.t.make(36, c.t.number(3), c.t.number(1)), 6);
        c.fails(c.t.make(52, c.t.number(3), c.t.number(0), c.t.number(9)), 6);
        c.told(397, 3997);
        Case room = c.another();
        leave(room, 4, 3);
        room.fails(room.t.make(36, room.t.number(3), room.t.number(1)), 6);
        room.told(396, 3997);
        room.comes(room.t.make(36, room.t.number(3), room.t.number(0)), Case.THING, 396);
        room.told(400, 4000);
    }

    static void promise04_make_the_second_size_takes_the_last_elements(Case c) {
        leave(c, 3, 3);
        c.fails(c.t.make(52, c.t.number(1), c.t.number(2), c.t.number(0)), 6);
        c.told(397, 3997);
        Case room = c.another();
        leave(room, 4, 3);
        room.fails(room.t.make(52, room.t.number(1), room.t.number(2), room.t.number(1)), 6);
        room.told(396, 3997);
        room.comes(room.t.make(52, room.t.number(1), room.t.number(2), room.t.number(0)), Case.THING, 396);
        room.told(400, 4000);
    }

    static void promise04_make_the_array_comes_first_then_element_by_element_all_within_it(Case c) {
        int two = c.t.number(2);
        c.comes(c.t.make(59, two, two, c.t.number(1)), Case.THING, 0);
        c.elements(0, 1, 4);
        c.elements(1, 2, 3);
        c.elements(2, NONE);
        c.elements(3, NONE);
        c.elements(4, 5, 6);
        c.elements(6, NONE);
        int[] types = {59, 43, 27, 27, 43, 27, 27};
        for (int thing = 0; thing < 7; thing++) {
            c.is("thing(" + thing + ", 0)", c.rules.thing(thing, 0), types[thing]);
        }
        c.told(7, 10);
    }

    static void promise04_make_elements_without_a_size_are_null_numbers_are_0(Case c) {
        int two = c.t.number(2);
        for (int type = 16; type < 64; type++) {
            if (type % 16 <= 11) {
                Case one = c.another();
                one.comes(one.t.make(type, one.t.number(2)), Case.THING, 0);
                long first = type < 24 ? 0 : NONE;
                one.elements(0, first, first);
            }
        }
        c.comes(c.t.make(52, two, two), Case.THING, 0);
        c.elements(2, NONE, NONE);
        c.told(3, 6);
        c.comes(c.t.make(36, two, two), Case.THING, 3);
        c.elements(4, 0, 0);
        c.elements(5, 0, 0);
        c.comes(c.t.make(52, two, two, two), Case.THING, 6);
        c.elements(8, 0, 0);
        c.elements(12, 0, 0);
    }

    // ---- FILLED

    static void promise04_filled_with_none_needs_a_thing_but_no_element(Case c) {
        c.keep(0, c.t.make(16, c.t.number(4000)));
        int none = c.t.filled(20);
        c.comes(none, Case.THING, 1);
        c.elements(1);
        Case full = c.another();
        full.keep(0, full.t.make(32, full.t.number(399), full.t.number(0)));
        full.fails(full.t.filled(20), 6);
        full.told(400, 399);
    }

    static void promise04_filled_room_for_two_not_for_three(Case c) {
        c.keep(0, c.t.make(16, c.t.number(3998)));
        int one = c.t.note(1, c.t.number(1));
        c.fails(c.t.filled(20, one, one, one), 6);
        c.noted();
        c.told(1, 3998);
        c.comes(c.t.filled(20, one, one), Case.THING, 1);
        c.noted(1, 1);
        c.told(2, 4000);
    }

    static void promise04_filled_has_no_room_ahead_of_its_nodes_failing(Case c) {
        c.keep(0, c.t.make(16, c.t.number(4000)));
        c.fails(c.t.filled(20, c.t.fail()), 6);
    }

    static void promise04_filled_is_made_ahead_of_its_nodes(Case c) {
        c.comes(c.t.filled(24, c.t.instance(10), c.t.instance(11)), Case.THING, 0);
        c.elements(0, 1, 2);
    }

    static void promise04_filled_stays_with_what_was_put_ahead_of_a_failing(Case c) {
        int six = c.t.number(6);
        int fail = c.t.fail();
        c.failsAt(c.t.filled(20, six, fail, six), 7, fail);
        c.told(1, 3);
        c.elements(0, 6, 0, 0);
        c.fails(c.t.filled(20, six, c.t.nul(), fail), 9);
        c.elements(1, 6, 0, 0);
        c.fails(c.t.filled(26, c.t.nul(), c.t.instance(8), fail), 3);
        c.elements(2, NONE, NONE, NONE);
    }

    static void promise04_filled_puts_as_put_does(Case c) {
        int number = c.t.number(-129);
        int nul = c.t.nul();
        int leaf = c.t.instance(11);
        c.comes(c.t.filled(17, number), Case.THING, 0);
        c.elements(0, 127);
        c.fails(c.t.filled(24, number), 9);
        c.fails(c.t.filled(20, nul), 9);
        c.fails(c.t.filled(20, leaf), 9);
        c.fails(c.t.filled(36, leaf), 3);
        c.fails(c.t.filled(36, number), 9);
        c.comes(c.t.filled(36, nul), Case.THING, 8);
        c.comes(c.t.filled(26, leaf), Case.THING, 9);
        c.elements(9, 10);
    }

    // ---- LENGTH

    static void promise04_length_of_an_empty_and_of_a_full_array(Case c) {
        c.comes(c.t.length(c.t.filled(27)), Case.NUMBER, 0);
        c.comes(c.t.length(c.t.make(16, c.t.number(1))), Case.NUMBER, 1);
        c.comes(c.t.length(c.t.make(16, c.t.number(3999))), Case.NUMBER, 3999);
    }

    static void promise04_length_of_null_fails_1_of_a_number_or_an_instance_9(Case c) {
        c.fails(c.t.length(c.t.nul()), 1);
        c.fails(c.t.length(c.t.number(0)), 9);
        c.fails(c.t.length(c.t.number(-1)), 9);
        c.fails(c.t.length(c.t.instance(8)), 9);
    }

    // ---- AT

    static void promise04_at_the_first_and_the_last_not_the_one_ahead_or_behind(Case c) {
        int array = c.keep(0, c.t.filled(20, c.t.number(7), c.t.number(8), c.t.number(9)));
        c.comes(c.t.at(array, c.t.number(0)), Case.NUMBER, 7);
        c.comes(c.t.at(array, c.t.number(2)), Case.NUMBER, 9);
        for (int none : new int[] {-1, 3, 4, MOST, LEAST}) {
            c.fails(c.t.at(array, c.t.number(none)), 2);
        }
    }

    static void promise04_at_0_of_an_empty_array_fails_2(Case c) {
        c.keep(1, c.t.filled(20, c.t.number(7)));
        c.fails(c.t.at(c.t.filled(20), c.t.number(0)), 2);
        c.fails(c.t.at(c.t.filled(20), c.t.number(-1)), 2);
    }

    static void promise04_at_is_cut_to_int(Case c) {
        c.wide(0, (1L << 32) + 1);
        c.wide(1, 1L << 31);
        c.wide(2, -(1L << 32));
        int array = c.keep(7, c.t.filled(20, c.t.number(7), c.t.number(8)));
        c.comes(c.t.at(array, c.t.get(0)), Case.NUMBER, 8);
        c.comes(c.t.at(array, c.t.get(2)), Case.NUMBER, 7);
        c.fails(c.t.at(array, c.t.get(1)), 2);
    }

    static void promise04_at_of_null_fails_1_behind_y_and_ahead_of_2(Case c) {
        int nul = c.t.note(1, c.t.nul());
        int far = c.t.note(2, c.t.number(-1));
        c.fails(c.t.at(nul, far), 1);
        c.noted(1, 2);
        int fail = c.t.fail();
        c.failsAt(c.t.at(nul, fail), 7, fail);
        c.fails(c.t.at(nul, nul), 9);
    }

    static void promise04_at_of_no_array_fails_9_ahead_of_y(Case c) {
        int noted = c.t.note(1, c.t.number(0));
        c.fails(c.t.at(c.t.number(0), noted), 9);
        c.noted();
        c.fails(c.t.at(c.t.instance(11), noted), 9);
        c.noted();
        c.fails(c.t.at(c.t.make(20, c.t.number(1)), c.t.instance(8)), 9);
    }

    // ---- PUT

    static void promise04_put_at_the_first_and_the_last_not_ahead_or_behind(Case c) {
        int array = c.keep(0, c.t.make(20, c.t.number(3)));
        c.keep(1, c.t.make(20, c.t.number(1)));
        int five = c.t.number(5);
        c.comes(c.t.put(array, c.t.number(0), five), Case.NUMBER, 5);
        c.comes(c.t.put(array, c.t.number(2), five), Case.NUMBER, 5);
        for (int none : new int[] {-1, 3, MOST, LEAST}) {
            c.fails(c.t.put(array, c.t.number(none), five), 2);
        }
        c.elements(0, 5, 0, 5);
        c.elements(1, 0);
    }

    static void promise04_put_is_cut_to_int(Case c) {
        c.wide(0, (1L << 32) + 1);
        c.wide(1, 1L << 31);
        int array = c.keep(7, c.t.make(20, c.t.number(2)));
        int five = c.t.number(5);
        c.comes(c.t.put(array, c.t.get(0), five), Case.NUMBER, 5);
        c.elements(0, 0, 5);
        c.fails(c.t.put(array, c.t.get(1), five), 2);
    }

    static void promise04_put_works_x_y_z_ahead_of_1_and_2(Case c) {
        int nul = c.t.note(1, c.t.nul());
        int far = c.t.note(2, c.t.number(1));
        int thing = c.t.note(3, c.t.instance(8));
        int array = c.t.note(4, c.t.make(20, c.t.number(1)));
        c.fails(c.t.put(nul, far, thing), 1);
        c.noted(1, 2, 3);
        c.fails(c.t.put(array, far, thing), 2);
        c.noted(4, 2, 3);
        int fail = c.t.fail();
        c.failsAt(c.t.put(nul, far, fail), 7, fail);
        c.failsAt(c.t.put(array, far, fail), 7, fail);
    }

    static void promise04_put_fails_1_ahead_of_2_ahead_of_9_and_3(Case c) {
        int nul = c.t.nul();
        int far = c.t.number(1);
        int near = c.t.number(0);
        int root = c.t.instance(10);
        int leaves = c.t.make(27, far);
        c.fails(c.t.put(nul, far, root), 1);
        c.fails(c.t.put(leaves, far, far), 2);
        c.fails(c.t.put(leaves, far, root), 2);
        c.fails(c.t.put(leaves, near, far), 9);
        c.fails(c.t.put(leaves, near, root), 3);
    }

    static void promise04_put_of_no_array_or_at_no_number_fails_9_at_once(Case c) {
        int zero = c.t.note(1, c.t.number(0));
        int thing = c.t.note(2, c.t.instance(8));
        int array = c.t.note(3, c.t.make(20, c.t.number(1)));
        int nul = c.t.note(4, c.t.nul());
        c.fails(c.t.put(zero, zero, zero), 9);
        c.noted(1);
        c.fails(c.t.put(thing, zero, zero), 9);
        c.noted(2);
        c.fails(c.t.put(array, nul, zero), 9);
        c.noted(3, 4);
        c.fails(c.t.put(array, thing, zero), 9);
        c.noted(3, 2);
        c.fails(c.t.put(nul, nul, zero), 9);
        c.noted(4, 4);
    }

    static void promise04_put_a_number_among_references_or_the_other_way_fails_9(Case c) {
        int zero = c.t.number(0);
        int one = c.t.number(1);
        int nul = c.t.nul();
        int thing = c.t.instance(8);
        c.fails(c.t.put(c.t.make(24, one), zero, zero), 9);
        c.fails(c.t.put(c.t.make(36, one), zero, zero), 9);
        c.fails(c.t.put(c.t.make(20, one), zero, nul), 9);
        c.fails(c.t.put(c.t.make(16, one), zero, nul), 9);
        c.fails(c.t.put(c.t.make(23, one), zero, thing), 9);
        c.fails(c.t.put(c.t.make(20, one), zero, c.t.make(20, one)), 9);
        c.comes(c.t.put(c.t.make(36, one), zero, nul), Case.NULL, NONE);
        c.comes(c.t.put(c.t.make(27, one), zero, nul), Case.NULL, NONE);
    }

    static void promise04_put_a_thing_of_a_sub_type_not_of_a_wider_one(Case c) {
        int zero = c.t.number(0);
        int one = c.t.number(1);
        int[] things = {c.t.instance(8), c.t.instance(10), c.t.instance(11), c.t.filled(20), c.t.filled(27)};
        int[][] fits = {
            {24, 1, 1, 1, 1, 1}, {25, 0, 1, 1, 0, 0}, {26, 0, 1, 1, 0, 0}, {27, 0, 0, 1, 0, 0},
            {36, 0, 0, 0, 1, 0}, {37, 0, 0, 0, 0, 0}, {40, 0, 0, 0, 0, 1}, {42, 0, 0, 0, 0, 1}, {43, 0, 0, 0, 0, 1},
        };
        for (int[] row : fits) {
            int array = c.t.make(row[0], one);
            for (int i = 0; i < 5; i++) {
                int put = c.rules.node(14, array, zero, things[i], 0);
                c.is("PUT of thing " + i + " into type " + row[0], c.rules.run(put), row[1 + i] == 1 ? 2 : -13);
            }
        }
    }

    static void promise04_put_that_fails_leaves_the_element(Case c) {
        int zero = c.t.number(0);
        int leaf = c.t.instance(11);
        int leaves = c.keep(0, c.t.filled(27, leaf));
        c.fails(c.t.put(leaves, zero, c.t.instance(10)), 3);
        c.fails(c.t.put(leaves, zero, zero), 9);
        c.elements(0, 1);
        int numbers = c.keep(1, c.t.filled(20, c.t.number(8)));
        c.fails(c.t.put(numbers, zero, c.t.nul()), 9);
        c.is("element", c.rules.element((int) c.rules.get(1), 0), 8);
    }

    static void promise04_put_into_itself_and_over_what_z_put(Case c) {
        int zero = c.t.number(0);
        int array = c.keep(0, c.t.make(24, c.t.number(1)));
        c.comes(c.t.put(array, zero, array), Case.THING, 0);
        c.elements(0, 0);
        c.comes(c.t.put(array, zero, c.t.then(c.t.put(array, zero, array), c.t.nul())), Case.NULL, NONE);
        c.elements(0, NONE);
    }

    // ---- ADD

    static void promise04_add_at_the_first_and_the_last_not_ahead_or_behind(Case c) {
        int array = c.keep(0, c.t.filled(20, c.t.number(1), c.t.number(2), c.t.number(3)));
        int ten = c.t.note(1, c.t.number(10));
        c.comes(c.t.add(array, c.t.number(0), ten), Case.NUMBER, 11);
        c.comes(c.t.add(array, c.t.number(2), ten), Case.NUMBER, 13);
        for (int none : new int[] {-1, 3, MOST, LEAST}) {
            c.fails(c.t.add(array, c.t.number(none), ten), 2);
            c.noted();
        }
        c.elements(0, 11, 2, 13);
    }

    static void promise04_add_is_cut_to_int(Case c) {
        c.wide(0, (1L << 32) + 1);
        c.wide(1, 1L << 31);
        int array = c.keep(7, c.t.make(20, c.t.number(2)));
        int five = c.t.number(5);
        c.comes(c.t.add(array, c.t.get(0), five), Case.NUMBER, 5);
        c.fails(c.t.add(array, c.t.get(1), five), 2);
        c.elements(0, 0, 5);
    }

    static void promise04_add_fails_1_2_9_ahead_of_z(Case c) {
        int one = c.t.number(1);
        int zero = c.t.number(0);
        int fail = c.t.note(1, c.t.fail());
        c.fails(c.t.add(c.t.nul(), zero, fail), 1);
        c.noted();
        c.fails(c.t.add(c.t.nul(), one, fail), 1);
        c.fails(c.t.add(c.t.make(24, one), one, fail), 2);
        c.noted();
        c.fails(c.t.add(c.t.make(16, one), one, fail), 2);
        c.fails(c.t.add(c.t.make(24, one), zero, fail), 9);
        c.noted();
        c.fails(c.t.add(c.t.make(36, one), zero, fail), 9);
        c.noted();
        c.fails(c.t.add(c.t.make(16, one), zero, fail), 9);
        c.noted();
        c.is("run", c.rules.run(c.t.add(c.t.make(17, one), zero, fail)), -17);
        c.noted(1);
    }

    static void promise04_add_of_no_array_or_at_no_number_fails_9_at_once(Case c) {
        int zero = c.t.note(1, c.t.number(0));
        int nul = c.t.note(2, c.t.nul());
        int thing = c.t.note(3, c.t.instance(8));
        c.fails(c.t.add(zero, zero, zero), 9);
        c.noted(1);
        c.fails(c.t.add(thing, zero, zero), 9);
        c.noted(3);
        c.fails(c.t.add(nul, nul, zero), 9);
        c.noted(2, 2);
    }

    static void promise04_add_of_a_reference_as_z_fails_9_and_leaves_the_element(Case c) {
        int zero = c.t.number(0);
        int array = c.keep(0, c.t.filled(20, c.t.number(8)));
        c.fails(c.t.add(array, zero, c.t.nul()), 9);
        c.fails(c.t.add(array, zero, c.t.instance(8)), 9);
        int fail = c.t.fail();
        c.failsAt(c.t.add(array, zero, fail), 7, fail);
        c.elements(0, 8);
    }

    static void promise04_add_to_the_element_as_it_was_ahead_of_z(Case c) {
        int zero = c.t.number(0);
        for (int base = 1; base < 8; base++) {
            Case one = c.another();
            int at = one.t.number(0);
            int array = one.keep(0, one.t.filled(16 + base, one.t.number(10)));
            int z = one.t.then(one.t.put(array, at, one.t.number(50)), one.t.number(3));
            one.comes(one.t.add(array, at, z), Case.NUMBER, 13);
            one.elements(0, 13);
            one.comes(one.t.add(array, at, one.t.add(array, at, one.t.number(1))), Case.NUMBER, 27);
            one.elements(0, 27);
        }
        int array = c.keep(0, c.t.filled(20, c.t.number(10)));
        c.comes(c.t.add(array, zero, c.t.then(c.t.set(0, c.t.nul()), c.t.number(1))), Case.NUMBER, 11);
        c.elements(0, 11);
    }

    // ---- STEP

    static void promise04_step_at_the_first_and_the_last_not_ahead_or_behind(Case c) {
        int array = c.keep(0, c.t.filled(20, c.t.number(1), c.t.number(2), c.t.number(3)));
        c.comes(c.t.step(array, c.t.number(0)), Case.NUMBER, 1);
        c.comes(c.t.step(array, c.t.number(2)), Case.NUMBER, 3);
        for (int none : new int[] {-1, 3, MOST, LEAST}) {
            c.fails(c.t.step(array, c.t.number(none)), 2);
        }
        c.elements(0, 2, 2, 4);
    }

    static void promise04_step_is_cut_to_int(Case c) {
        c.wide(0, (1L << 32) + 1);
        c.wide(1, 1L << 31);
        int array = c.keep(7, c.t.make(20, c.t.number(2)));
        c.comes(c.t.step(array, c.t.get(0)), Case.NUMBER, 0);
        c.fails(c.t.step(array, c.t.get(1)), 2);
        c.elements(0, 0, 1);
    }

    static void promise04_step_fails_1_ahead_of_2_ahead_of_9(Case c) {
        int one = c.t.note(1, c.t.number(1));
        int zero = c.t.number(0);
        c.fails(c.t.step(c.t.nul(), one), 1);
        c.noted(1);
        c.fails(c.t.step(c.t.make(24, one), one), 2);
        c.fails(c.t.step(c.t.make(16, one), one), 2);
        c.fails(c.t.step(c.t.make(24, one), zero), 9);
        c.fails(c.t.step(c.t.make(36, one), zero), 9);
        c.fails(c.t.step(c.t.make(16, one), zero), 9);
        c.fails(c.t.step(zero, one), 9);
        c.noted();
        c.fails(c.t.step(c.t.instance(8), one), 9);
        c.noted();
        c.fails(c.t.step(c.t.make(20, one), c.t.nul()), 9);
    }

    // ---- COPY

    static void promise04_copy_of_an_empty_array_is_another_one(Case c) {
        int none = c.keep(0, c.t.filled(59));
        c.comes(c.t.same(none, c.t.copy(none)), Case.NUMBER, 0);
        c.elements(1);
        c.is("thing(1, 0)", c.rules.thing(1, 0), 59);
    }

    static void promise04_copy_of_2000_elements_has_room_of_2001_fails_6(Case c) {
        int array = c.keep(0, c.t.make(23, c.t.number(2000)));
        c.comes(c.t.copy(array), Case.THING, 1);
        c.told(2, 4000);
        c.fails(c.t.copy(array), 6);
        c.told(2, 4000);
        c.comes(c.t.copy(c.t.filled(20)), Case.THING, 3);
        Case more = c.another();
        array = more.keep(0, more.t.make(23, more.t.number(2001)));
        more.fails(more.t.copy(array), 6);
        more.told(1, 2001);
    }

    static void promise04_copy_as_the_400th_and_the_401st_thing(Case c) {
        c.keep(0, c.t.make(32, c.t.number(398), c.t.number(0)));
        int inner = c.keep(1, c.t.at(c.t.get(0), c.t.number(397)));
        c.comes(c.t.copy(inner), Case.THING, 399);
        c.fails(c.t.copy(inner), 6);
        c.told(400, 398);
    }

    static void promise04_copy_of_null_fails_1_without_room_too_of_no_array_9(Case c) {
        c.fails(c.t.copy(c.t.nul()), 1);
        c.fails(c.t.copy(c.t.number(0)), 9);
        c.fails(c.t.copy(c.t.instance(8)), 9);
        c.keep(0, c.t.make(16, c.t.number(4000)));
        c.fails(c.t.copy(c.t.nul()), 1);
    }

    static void promise04_copy_has_the_same_elements_and_then_its_own(Case c) {
        int zero = c.t.number(0);
        int array = c.keep(0, c.t.filled(36, c.t.filled(20, c.t.number(4)), c.t.nul()));
        int copy = c.keep(1, c.t.copy(array));
        c.elements(2, 1, NONE);
        c.comes(c.t.put(array, zero, c.t.nul()), Case.NULL, NONE);
        c.elements(2, 1, NONE);
        c.comes(c.t.put(copy, c.t.number(1), c.t.at(copy, zero)), Case.THING, 1);
        c.elements(0, NONE, NONE);
        c.elements(2, 1, 1);
    }

    // ---- EACH

    static void promise04_each_of_an_empty_array_works_z_not_once(Case c) {
        c.rules.run(c.t.set(3, c.t.number(77)));
        c.comes(c.t.each(c.t.filled(24), 3, c.t.note(1, c.t.fail())), Case.NUMBER, 0);
        c.noted();
        c.is("get(3)", c.rules.get(3), 77);
    }

    static void promise04_each_of_one_and_of_three(Case c) {
        int noted = c.t.note(1, c.t.nul());
        c.comes(c.t.each(c.t.filled(20, c.t.number(8)), 7, noted), Case.NUMBER, 1);
        c.noted(1);
        c.is("get(7)", c.rules.get(7), 8);
        c.comes(c.t.each(c.t.filled(24, c.t.instance(8), c.t.nul(), c.t.instance(11)), 0, noted), Case.NUMBER, 3);
        c.noted(1, 1, 1);
        c.is("has(0)", c.rules.has(0), Case.THING);
    }

    static void promise04_each_of_null_fails_1_of_no_array_9(Case c) {
        int noted = c.t.note(1, c.t.number(0));
        c.fails(c.t.each(c.t.nul(), 0, noted), 1);
        c.noted();
        c.fails(c.t.each(c.t.number(3), 0, noted), 9);
        c.fails(c.t.each(c.t.instance(8), 0, noted), 9);
        c.noted();
    }

    static void promise04_each_elements_are_as_they_are_then(Case c) {
        int array = c.keep(0, c.t.filled(20, c.t.number(1), c.t.number(2), c.t.number(3)));
        int sum = c.t.set(2, c.t.plus(c.t.get(2), c.t.get(1)));
        int z = c.t.then(sum, c.t.put(array, c.t.number(2), c.t.number(40)));
        c.comes(c.t.each(array, 1, z), Case.NUMBER, 3);
        c.is("get(2)", c.rules.get(2), 43);
    }

    static void promise04_each_keeps_to_the_array_that_x_was(Case c) {
        int array = c.keep(0, c.t.filled(20, c.t.number(1), c.t.number(2)));
        int sum = c.t.set(2, c.t.plus(c.t.get(2), c.t.get(0)));
        c.comes(c.t.each(array, 0, sum), Case.NUMBER, 2);
        c.is("get(2)", c.rules.get(2), 3);
        c.is("get(0)", c.rules.get(0), 2);
    }

    static void promise04_each_stops_where_z_fails(Case c) {
        int array = c.t.filled(20, c.t.number(5), c.t.number(0), c.t.number(6));
        int over = c.t.over(c.t.number(1), c.t.get(3));
        c.failsAt(c.t.each(array, 3, c.t.note(1, over)), 8, over);
        c.noted(1, 1);
        c.is("get(3)", c.rules.get(3), 0);
    }

    // ---- VARIED

    static void promise04_varied_of_none_is_an_empty_array(Case c) {
        c.comes(c.t.varied(20), Case.THING, 0);
        c.elements(0);
        c.is("thing(0, 0)", c.rules.thing(0, 0), 20);
    }

    static void promise04_varied_of_one_null_is_null_of_two_an_array(Case c) {
        int nul = c.t.nul();
        for (int type : new int[] {16, 20, 24, 27, 36, 59}) {
            c.comes(c.t.varied(type, nul), Case.NULL, NONE);
        }
        c.told(0, 0);
        c.comes(c.t.varied(27, nul, nul), Case.THING, 0);
        c.elements(0, NONE, NONE);
    }

    static void promise04_varied_of_one_thing_of_a_sub_type_is_that(Case c) {
        int leaves = c.t.filled(27);
        for (int type : new int[] {24, 25, 26, 27}) {
            Case one = c.another();
            one.comes(one.t.varied(type, one.t.filled(27)), Case.THING, 0);
            one.told(1, 0);
        }
        c.comes(c.t.varied(24, c.t.filled(36)), Case.THING, 0);
        c.told(1, 0);
        c.comes(c.t.varied(24, leaves, leaves), Case.THING, 3);
        c.elements(3, 1, 2);
    }

    static void promise04_varied_of_one_thing_of_no_sub_type_is_an_array_with_it(Case c) {
        c.comes(c.t.varied(24, c.t.filled(20)), Case.THING, 1);
        c.elements(1, 0);
        c.comes(c.t.varied(36, c.t.filled(20)), Case.THING, 3);
        c.elements(3, 2);
        c.comes(c.t.varied(26, c.t.instance(11)), Case.THING, 5);
        c.elements(5, 4);
        c.fails(c.t.varied(27, c.t.filled(26)), 3);
        c.elements(7, NONE);
        c.fails(c.t.varied(20, c.t.filled(21)), 9);
        c.elements(9, 0);
    }

    static void promise04_varied_of_one_number_is_an_array_with_it(Case c) {
        c.comes(c.t.varied(17, c.t.number(128)), Case.THING, 0);
        c.elements(0, -128);
        c.fails(c.t.varied(24, c.t.number(128)), 9);
        c.elements(1, NONE);
    }

    static void promise04_varied_works_all_nodes_ahead_of_any_failing_of_its_own(Case c) {
        int wrong = c.t.note(1, c.t.instance(10));
        int number = c.t.note(2, c.t.number(1));
        c.fails(c.t.varied(27, wrong, number), 3);
        c.noted(1, 2);
        c.elements(1, NONE, NONE);
        c.fails(c.t.varied(27, number, wrong), 9);
        c.noted(2, 1);
        int fail = c.t.fail();
        c.failsAt(c.t.varied(27, wrong, fail), 7, fail);
        c.told(5, 4);
    }

    static void promise04_varied_stays_with_what_was_put_ahead_of_a_failing(Case c) {
        int leaf = c.t.instance(11);
        c.fails(c.t.varied(27, leaf, c.t.instance(10), leaf), 3);
        c.elements(3, 0, NONE, NONE);
        c.fails(c.t.varied(18, c.t.number(-1), c.t.nul()), 9);
        c.elements(4, 65535, 0);
    }

    static void promise04_varied_without_room_fails_6_when_its_nodes_were_worked(Case c) {
        c.keep(0, c.t.make(16, c.t.number(3999)));
        int one = c.t.note(1, c.t.number(1));
        c.fails(c.t.varied(20, one, one), 6);
        c.noted(1, 1);
        int fail = c.t.fail();
        c.failsAt(c.t.varied(20, one, fail), 7, fail);
        c.told(1, 3999);
        c.comes(c.t.varied(20, one), Case.THING, 1);
        c.fails(c.t.varied(20, one), 6);
        c.comes(c.t.varied(20), Case.THING, 2);
    }

    static void promise04_varied_as_the_400th_and_the_401st_thing(Case c) {
        int array = c.keep(0, c.t.make(32, c.t.number(398), c.t.number(0)));
        c.comes(c.t.varied(20), Case.THING, 399);
        c.fails(c.t.varied(20), 6);
        c.comes(c.t.varied(32, array), Case.THING, 0);
        c.comes(c.t.varied(20, c.t.nul()), Case.NULL, NONE);
        c.fails(c.t.varied(48, array), 6);
    }

    static void promise04_varied_whose_node_fails_is_caught_40_times(Case c) {
        int one = c.t.number(1);
        int list = NONE;
        for (int i = 0; i < 60; i++) {
            list = c.rules.node(10, list, one, 0, 0);
        }
        int fail = c.t.fail();
        int varied = c.rules.node(22, 20, c.rules.node(10, list, fail, 0, 0), 0, 0);
        int caught = c.t.caught(varied, one, 1);
        c.comes(c.t.each(c.t.make(16, c.t.number(40)), 0, caught), Case.NUMBER, 40);
        c.comes(c.rules.node(22, 20, list, 0, 0), Case.THING, 1);
        c.is("thing(1, 1)", c.rules.thing(1, 1), 60);
    }

    static void promise04_varied_within_varied_as_deep_and_as_long_as_80_nodes_allow(Case c) {
        int nul = c.t.nul();
        int base = NONE;
        for (int i = 0; i < 38; i++) {
            base = c.rules.node(10, base, nul, 0, 0);
        }
        int varied = c.rules.node(22, 24, base, 0, 0);
        int levels = 1;
        for (int told = 40; told < 80; told += 2) {
            varied = c.rules.node(22, 24, c.rules.node(10, base, varied, 0, 0), 0, 0);
            levels++;
        }
        c.is("told(0)", c.rules.told(0), 80);
        c.comes(79, Case.THING, levels - 1);
        c.is("worked()", c.rules.worked(), 39 * levels);
        for (int level = 1; level < levels; level++) {
            c.is("thing(" + level + ", 1)", c.rules.thing(level, 1), 39);
            c.is("element(" + level + ", 37)", c.rules.element(level, 37), NONE);
            c.is("element(" + level + ", 38)", c.rules.element(level, 38), level - 1);
        }
    }

    static void promise04_varied_within_varied_keep_their_own(Case c) {
        int inner = c.t.varied(20, c.t.number(3), c.t.number(4));
        int middle = c.t.varied(36, inner, inner);
        c.comes(c.t.varied(52, middle, c.t.nul(), middle), Case.THING, 6);
        c.elements(6, 2, NONE, 5);
        c.elements(5, 3, 4);
        c.elements(4, 3, 4);
    }
}
