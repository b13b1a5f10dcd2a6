/** The boundary cases of promises 1 (a new object), 2 (node) and 3 (clear). */
final class NodeCases {
    private static final int NONE = Case.NONE, OUTSIDE = Case.OUTSIDE, ROOM = Case.ROOM;
    private static final int MOST = Integer.MAX_VALUE, LEAST = Integer.MIN_VALUE;

    // ---- promise 1

    static void promise01_new_object_has_no_nodes(Case c) {
        c.is("told(0)", c.rules.told(0), 0);
        c.runRefused(0);
        c.nodeRefused(OUTSIDE, 12, 0, 0, 0, 0);
        c.is("clear()", c.rules.clear(), 0);
        c.is("its first NODE", c.rules.node(1, 0, 0, 0, 0), 0);
    }

    static void promise01_new_object_has_no_things(Case c) {
        c.told(0, 0);
        c.is("thing(0, 0)", c.rules.thing(0, 0), OUTSIDE);
        c.is("element(0, 0)", c.rules.element(0, 0), 0);
        c.is("bits(0, 0)", c.rules.bits(0, 0), 0);
        c.comes(c.t.instance(8), Case.THING, 0);
    }

    static void promise01_new_object_has_variables_0_to_7_that_are_the_number_0(Case c) {
        for (int variable = 0; variable <= 7; variable++) {
            c.is("has(" + variable + ")", c.rules.has(variable), Case.NUMBER);
            c.is("get(" + variable + ")", c.rules.get(variable), 0);
        }
    }

    static void promise01_new_object_has_no_run_behind_it(Case c) {
        c.is("value()", c.rules.value(), 0);
        c.is("where()", c.rules.where(), NONE);
        c.is("worked()", c.rules.worked(), 0);
        c.noted();
        c.is("note(0)", c.rules.note(0), OUTSIDE);
    }

    static void promise01_new_object_has_nothing_of_one_that_is_used(Case c) {
        Case used = c.another();
        used.rules.run(used.t.note(3, used.t.set(7, used.t.make(20, used.t.number(2)))));
        promise01_new_object_has_no_nodes(c.another());
        promise01_new_object_has_no_things(c.another());
        promise01_new_object_has_variables_0_to_7_that_are_the_number_0(c.another());
        promise01_new_object_has_no_run_behind_it(c.another());
        used.told(1, 2);
    }

    // ---- promise 2: the parts of each CODE

    /** Five NODES, of which 1, 2, 3 are LISTS of one, two, three NODES; 4 was run. */
    private static Case withFive(Case c) {
        Case five = c.another();
        five.nodeTaken(0, 5, 0, 0, 0);
        five.nodeTaken(10, NONE, 0, 0, 0);
        five.nodeTaken(10, 1, 0, 0, 0);
        five.nodeTaken(10, 2, 0, 0, 0);
        five.nodeTaken(4, 9, 0, 0, 0);
        five.comes(4, Case.NUMBER, 5);
        return five;
    }

    private static int fitting(char part) {
        switch (part) {
            case 'I': case 'R': return 8;
            case 'A': return 20;
            case 'L': return 1;
            case 'M': return 2;
            case 's': return NONE;
            default: return 0;
        }
    }

    private static int[] inside(char part) {
        switch (part) {
            case 'V': return new int[] {0, 7};
            case 'N': return new int[] {0, 1, 4};
            case 'I': return new int[] {8, 10, 11};
            case 'A': return new int[] {16, 27, 32, 43, 48, 59};
            case 'T': return new int[] {0, 11, 16, 27, 32, 43, 48, 59};
            case 'R': return new int[] {8, 9, 10, 11, 16, 23, 27, 32, 43, 48, 59};
            case 'L': return new int[] {NONE, 1, 2, 3};
            case 'M': return new int[] {2};
            case 's': return new int[] {NONE};
            default: return new int[] {0, NONE, OUTSIDE, 5, 80, MOST, LEAST};
        }
    }

    private static int[] outside(char part) {
        switch (part) {
            case 'V': return new int[] {-1, 8, MOST, LEAST};
            case 'N': return new int[] {-1, -2, 5, 79, 80, MOST, LEAST};
            case 'I': return new int[] {-1, 0, 7, 9, 12, 24, 26, 27, 64, MOST, LEAST};
            case 'A': return new int[] {-1, 0, 8, 11, 12, 15, 28, 31, 44, 47, 60, 63, 64, 80, -16, MOST, LEAST};
            case 'T': return new int[] {-1, 12, 15, 28, 31, 44, 47, 60, 63, 64, 80, -16, MOST, LEAST};
            case 'R': return new int[] {-1, 0, 7, 12, 15, 28, 31, 44, 47, 60, 63, 64, 80, -16, MOST, LEAST};
            case 'L': return new int[] {-2, 0, 4, 5, 80, MOST, LEAST};
            case 'M': return new int[] {NONE, -2, 0, 1, 3, 4, 5, 80, MOST, LEAST};
            case 's': return new int[] {-2, 0, 5, MOST, LEAST};
            default: return new int[0];
        }
    }

    /** The parts' letters: V VARIABLE, N NODE, L LIST or NONE, M LIST of two, I A T R types, s none more, - free. */
    private static void parts(Case c, int code, String parts) {
        for (int part = 0; part < 4; part++) {
            int[] p = new int[4];
            for (int i = 0; i < 4; i++) {
                p[i] = fitting(parts.charAt(i));
            }
            for (int last : inside(parts.charAt(part))) {
                p[part] = last;
                withFive(c).nodeTaken(code, p[0], p[1], p[2], p[3]);
            }
            for (int first : outside(parts.charAt(part))) {
                p[part] = first;
                withFive(c).nodeRefused(OUTSIDE, code, p[0], p[1], p[2], p[3]);
            }
        }
    }

    static void promise02_node_code_00_number_looks_at_no_part(Case c) {
        parts(c, 0, "----");
    }

    static void promise02_node_code_01_null_looks_at_no_part(Case c) {
        parts(c, 1, "----");
    }

    static void promise02_node_code_02_get_variables_0_and_7_not_8(Case c) {
        parts(c, 2, "V---");
    }

    static void promise02_node_code_03_set_variables_0_and_7_not_8_and_the_last_node_not_itself(Case c) {
        parts(c, 3, "VN--");
    }

    static void promise02_node_code_04_note_the_last_node_not_itself(Case c) {
        parts(c, 4, "-N--");
    }

    static void promise02_node_code_05_fail_looks_at_no_part(Case c) {
        parts(c, 5, "----");
    }

    static void promise02_node_code_06_plus_the_last_node_not_itself(Case c) {
        parts(c, 6, "NN--");
    }

    static void promise02_node_code_07_over_the_last_node_not_itself(Case c) {
        parts(c, 7, "NN--");
    }

    static void promise02_node_code_08_new_of_8_10_11_not_of_7_9_12_or_arrays(Case c) {
        parts(c, 8, "I---");
    }

    static void promise02_node_code_09_make_types_16_to_59_with_dims_and_one_size(Case c) {
        parts(c, 9, "ANss");
    }

    static void promise02_node_code_10_list_behind_none_or_a_list_not_behind_another_node(Case c) {
        parts(c, 10, "LN--");
    }

    static void promise02_node_code_11_filled_types_with_dims_and_a_list_or_none(Case c) {
        parts(c, 11, "AL--");
    }

    static void promise02_node_code_12_length_the_last_node_not_itself(Case c) {
        parts(c, 12, "N---");
    }

    static void promise02_node_code_13_at_the_last_node_not_itself(Case c) {
        parts(c, 13, "NN--");
    }

    static void promise02_node_code_14_put_the_last_node_not_itself(Case c) {
        parts(c, 14, "NNN-");
    }

    static void promise02_node_code_15_add_the_last_node_not_itself(Case c) {
        parts(c, 15, "NNN-");
    }

    static void promise02_node_code_16_step_the_last_node_not_itself(Case c) {
        parts(c, 16, "NN--");
    }

    static void promise02_node_code_17_copy_the_last_node_not_itself(Case c) {
        parts(c, 17, "N---");
    }

    static void promise02_node_code_18_cast_types_0_to_59_without_bases_12_to_15(Case c) {
        parts(c, 18, "TN--");
    }

    static void promise02_node_code_19_is_types_not_of_numbers(Case c) {
        parts(c, 19, "RN--");
    }

    static void promise02_node_code_20_same_the_last_node_not_itself(Case c) {
        parts(c, 20, "NN--");
    }

    static void promise02_node_code_21_each_variables_0_and_7_not_8_and_the_last_node_not_itself(Case c) {
        parts(c, 21, "NVN-");
    }

    static void promise02_node_code_22_varied_types_with_dims_and_a_list_or_none(Case c) {
        parts(c, 22, "AL--");
    }

    static void promise02_node_code_23_then_the_last_node_not_itself(Case c) {
        parts(c, 23, "NN--");
    }

    static void promise02_node_code_24_if_the_last_node_not_itself(Case c) {
        parts(c, 24, "NNN-");
    }

    static void promise02_node_code_25_catch_variables_0_and_7_not_8_and_the_last_node_not_itself(Case c) {
        parts(c, 25, "NNV-");
    }

    static void promise02_node_code_26_move_a_list_of_two_not_of_one_or_three(Case c) {
        parts(c, 26, "NNNM");
    }

    static void promise02_node_codes_0_and_26_are_the_least_and_the_greatest(Case c) {
        for (int code : new int[] {-1, 27, 28, MOST, LEAST}) {
            withFive(c).nodeRefused(OUTSIDE, code, 0, 0, 0, 0);
            withFive(c).nodeRefused(OUTSIDE, code, 20, NONE, NONE, NONE);
        }
        withFive(c).nodeTaken(0, 0, 0, 0, 0);
        withFive(c).nodeTaken(26, 0, 0, 0, 2);
    }

    // ---- promise 2: sizes of MAKE

    private static void sizes(Case c, boolean taken, int type, int b, int sizeC, int sizeD) {
        if (taken) {
            withFive(c).nodeTaken(9, type, b, sizeC, sizeD);
        } else {
            withFive(c).nodeRefused(OUTSIDE, 9, type, b, sizeC, sizeD);
        }
    }

    static void promise02_node_make_one_dim_takes_one_size_not_two(Case c) {
        sizes(c, true, 16, 4, NONE, NONE);
        sizes(c, false, 16, 4, 4, NONE);
        sizes(c, false, 16, 4, 4, 4);
        sizes(c, true, 27, 0, NONE, NONE);
        sizes(c, false, 27, 0, 0, NONE);
    }

    static void promise02_node_make_two_dims_take_two_sizes_not_three(Case c) {
        sizes(c, true, 32, 4, NONE, NONE);
        sizes(c, true, 32, 4, 4, NONE);
        sizes(c, false, 32, 4, 4, 4);
        sizes(c, true, 43, 0, 0, NONE);
        sizes(c, false, 43, 0, 0, 0);
    }

    static void promise02_node_make_three_dims_take_three_sizes(Case c) {
        sizes(c, true, 48, 4, NONE, NONE);
        sizes(c, true, 48, 4, 4, NONE);
        sizes(c, true, 48, 4, 4, 4);
        sizes(c, true, 59, 0, 0, 0);
    }

    static void promise02_node_make_without_any_size_is_outside(Case c) {
        for (int type : new int[] {16, 32, 48}) {
            sizes(c, false, type, NONE, NONE, NONE);
            sizes(c, false, type, NONE, 4, NONE);
            sizes(c, false, type, NONE, 4, 4);
            sizes(c, false, type, NONE, NONE, 4);
        }
    }

    static void promise02_node_make_none_stands_only_behind_the_last_size(Case c) {
        for (int type : new int[] {16, 32, 48}) {
            sizes(c, false, type, 4, NONE, 4);
            sizes(c, false, type, 4, NONE, 0);
        }
    }

    static void promise02_node_make_a_size_that_is_no_node_is_outside(Case c) {
        for (int wrong : new int[] {-2, 5, 80, MOST, LEAST}) {
            sizes(c, false, 48, wrong, 4, 4);
            sizes(c, false, 48, 4, wrong, 4);
            sizes(c, false, 48, 4, 4, wrong);
            sizes(c, false, 48, 4, wrong, NONE);
            sizes(c, false, 48, 4, NONE, wrong);
        }
    }

    // ---- promise 2: LISTS

    static void promise02_node_a_list_may_stand_where_any_node_may(Case c) {
        Case five = withFive(c);
        five.nodeTaken(6, 1, 2, 0, 0);
        five.nodeTaken(10, 3, 3, 0, 0);
        five.nodeTaken(9, 20, 3, NONE, NONE);
    }

    static void promise02_node_a_list_may_go_on_in_two_ways(Case c) {
        Case five = withFive(c);
        five.nodeTaken(10, 1, 4, 0, 0);
        five.nodeTaken(26, 0, 0, 0, 5);
        five.nodeTaken(26, 0, 0, 0, 2);
        five.nodeRefused(OUTSIDE, 26, 0, 0, 0, 6);
    }

    static void promise02_node_filled_with_none_and_with_78_nodes(Case c) {
        int number = c.t.number(6);
        int list = NONE;
        for (int i = 0; i < 78; i++) {
            list = c.rules.node(10, list, number, 0, 0);
        }
        c.nodeTaken(11, 20, list, 0, 0);
        c.comes(79, Case.THING, 0);
        c.is("thing(0, 1)", c.rules.thing(0, 1), 78);
        c.is("worked()", c.rules.worked(), 79);
        c.rules.clear();
        c.nodeTaken(11, 20, NONE, 0, 0);
        c.comes(0, Case.THING, 1);
        c.elements(1);
    }

    // ---- promise 2: room

    static void promise02_node_the_80th_is_taken_the_81st_is_room(Case c) {
        c.fillNodes(79);
        c.nodeTaken(0, 7, 0, 0, 0);
        c.comes(79, Case.NUMBER, 7);
        c.nodeRefused(ROOM, 0, 8, 0, 0, 0);
        c.nodeRefused(ROOM, 0, 8, 0, 0, 0);
        c.runRefused(80);
        c.comes(79, Case.NUMBER, 7);
    }

    static void promise02_node_outside_comes_ahead_of_room(Case c) {
        c.fillNodes(80);
        c.nodeRefused(OUTSIDE, 27, 0, 0, 0, 0);
        c.nodeRefused(OUTSIDE, 2, 8, 0, 0, 0);
        c.nodeRefused(OUTSIDE, 12, 80, 0, 0, 0);
        c.nodeRefused(OUTSIDE, 11, 20, 79, 0, 0);
        c.nodeRefused(OUTSIDE, 9, 20, 0, 0, NONE);
        c.nodeRefused(ROOM, 2, 7, 0, 0, 0);
        c.nodeRefused(ROOM, 12, 79, 0, 0, 0);
        c.nodeRefused(ROOM, 11, 20, NONE, 0, 0);
        c.nodeRefused(ROOM, 10, NONE, 79, 0, 0);
        c.nodeRefused(ROOM, 9, 20, 0, NONE, NONE);
    }

    static void promise02_node_has_room_for_80_again_behind_clear(Case c) {
        c.fillNodes(80);
        c.is("clear()", c.rules.clear(), 80);
        for (int i = 0; i < 80; i++) {
            c.nodeTaken(0, i, 0, 0, 0);
        }
        c.nodeRefused(ROOM, 0, 0, 0, 0, 0);
        c.comes(79, Case.NUMBER, 79);
    }

    static void promise02_node_keeps_its_number_and_parts_whatever_is_refused_behind_it(Case c) {
        c.nodeTaken(0, 41, 0, 0, 0);
        c.nodeRefused(OUTSIDE, 6, 0, 1, 0, 0);
        c.nodeTaken(6, 0, 0, 0, 0);
        c.nodeRefused(OUTSIDE, 0 - 1, 0, 0, 0, 0);
        c.comes(1, Case.NUMBER, 82);
        c.comes(0, Case.NUMBER, 41);
    }

    // ---- promise 3

    static void promise03_clear_of_none_of_one_and_of_80(Case c) {
        c.is("clear() of none", c.rules.clear(), 0);
        c.t.number(1);
        c.is("clear() of one", c.rules.clear(), 1);
        c.is("clear() again", c.rules.clear(), 0);
        c.fillNodes(80);
        c.is("clear() of 80", c.rules.clear(), 80);
        c.is("told(0)", c.rules.told(0), 0);
        c.is("clear() again", c.rules.clear(), 0);
    }

    static void promise03_clear_does_not_count_nodes_that_were_refused(Case c) {
        c.t.number(1);
        c.rules.node(27, 0, 0, 0, 0);
        c.rules.node(6, 0, 1, 0, 0);
        c.is("clear()", c.rules.clear(), 1);
        c.fillNodes(80);
        c.rules.node(0, 0, 0, 0, 0);
        c.is("clear()", c.rules.clear(), 80);
    }

    static void promise03_clear_leaves_no_node_that_can_be_run_or_be_a_part(Case c) {
        c.fillNodes(80);
        c.rules.clear();
        c.runRefused(0);
        c.runRefused(79);
        c.nodeRefused(OUTSIDE, 12, 0, 0, 0, 0);
        c.nodeTaken(0, 3, 0, 0, 0);
        c.nodeTaken(12, 0, 0, 0, 0);
        c.nodeRefused(OUTSIDE, 12, 2, 0, 0, 0);
        c.runRefused(2);
    }

    static void promise03_clear_leaves_no_list(Case c) {
        int list = c.t.list(c.t.number(1), c.t.number(2));
        c.is("the LIST", list, 3);
        c.rules.clear();
        c.fillNodes(4);
        c.nodeRefused(OUTSIDE, 11, 20, list, 0, 0);
        c.nodeRefused(OUTSIDE, 10, list, 0, 0, 0);
        c.nodeRefused(OUTSIDE, 26, 0, 0, 0, list);
        c.comes(list, Case.NUMBER, 0);
    }

    static void promise03_clear_forgets_how_long_lists_were(Case c) {
        c.t.list(c.t.number(1), c.t.number(2));
        c.rules.clear();
        c.fillNodes(3);
        c.nodeTaken(10, NONE, 0, 0, 0);
        c.nodeRefused(OUTSIDE, 26, 0, 0, 0, 3);
        c.nodeTaken(11, 20, 3, 0, 0);
        c.comes(4, Case.THING, 0);
        c.elements(0, 0);
    }

    static void promise03_clear_leaves_variables_things_and_the_trace(Case c) {
        int array = c.t.filled(22, c.t.number(4), c.t.number(-5));
        c.rules.run(c.t.set(0, c.t.number(-9)));
        c.rules.run(c.t.set(6, c.t.nul()));
        c.rules.run(c.t.note(8, c.t.note(9, c.t.set(7, array))));
        int nodes = c.rules.told(0);
        c.is("clear()", c.rules.clear(), nodes);
        c.noted(8, 9);
        c.is("get(0)", c.rules.get(0), -9);
        c.is("has(6)", c.rules.has(6), Case.NULL);
        c.is("has(7)", c.rules.has(7), Case.THING);
        c.told(1, 2);
        c.elements(0, 4, -5);
        c.is("bits(0, 1)", c.rules.bits(0, 1), Float.floatToIntBits(-5f));
        c.comes(c.t.at(c.t.get(7), c.t.number(1)), Case.NUMBER, -5);
    }

    static void promise03_clear_leaves_what_the_latest_run_answered(Case c) {
        c.rules.run(c.t.plus(c.t.number(3), c.t.fail()));
        c.rules.clear();
        c.is("where()", c.rules.where(), 1);
        c.is("worked()", c.rules.worked(), 3);
        c.rules.run(c.t.number(12));
        c.rules.clear();
        c.is("value()", c.rules.value(), 12);
        c.is("where()", c.rules.where(), NONE);
    }
}
