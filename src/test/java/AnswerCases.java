/** The boundary cases of promises 5 to 13, 15 and 16: what is answered of runs, VARIABLES, THINGS and types. */
final class AnswerCases {
    private static final int NONE = Case.NONE, OUTSIDE = Case.OUTSIDE;
    private static final int MOST = Integer.MAX_VALUE, LEAST = Integer.MIN_VALUE;

    // ---- promise 5

    static void promise05_value_of_no_run_is_0(Case c) {
        c.is("value()", c.rules.value(), 0);
        c.rules.run(0);
        c.is("value()", c.rules.value(), 0);
    }

    static void promise05_value_the_least_and_the_greatest_number(Case c) {
        for (long number : new long[] {Long.MIN_VALUE, Long.MAX_VALUE, -1, 0}) {
            Case one = c.another();
            one.wide(0, number);
            one.comes(one.t.get(0), Case.NUMBER, number);
        }
    }

    static void promise05_value_of_null_is_none(Case c) {
        c.rules.run(c.t.number(7));
        c.is("run", c.rules.run(c.t.nul()), Case.NULL);
        c.is("value()", c.rules.value(), NONE);
    }

    static void promise05_value_the_first_and_the_last_thing(Case c) {
        c.comes(c.t.make(32, c.t.number(398), c.t.number(0)), Case.THING, 0);
        c.comes(c.t.instance(8), Case.THING, 399);
    }

    static void promise05_value_is_0_of_a_run_that_failed(Case c) {
        c.rules.run(c.t.number(7));
        c.rules.run(c.t.fail());
        c.is("value()", c.rules.value(), 0);
        c.rules.run(c.t.nul());
        c.rules.run(c.t.then(c.t.nul(), c.t.fail()));
        c.is("value() behind NULL", c.rules.value(), 0);
        c.rules.run(c.t.then(c.t.instance(8), c.t.then(c.t.instance(8), c.t.fail())));
        c.is("value() behind a THING", c.rules.value(), 0);
        c.rules.run(c.t.each(c.t.make(16, c.t.number(3000)), 0, c.t.number(9)));
        c.is("value() behind 3000 NODES", c.rules.value(), 0);
    }

    static void promise05_value_stays_when_a_call_is_refused(Case c) {
        c.rules.run(c.t.number(7));
        c.runRefused(1);
        c.nodeRefused(OUTSIDE, 27, 0, 0, 0, 0);
        c.is("value()", c.rules.value(), 7);
    }

    // ---- promise 6

    static void promise06_where_of_no_run_is_none(Case c) {
        c.is("where()", c.rules.where(), NONE);
        c.rules.run(0);
        c.is("where()", c.rules.where(), NONE);
    }

    static void promise06_where_the_first_and_the_80th_node(Case c) {
        int fail = c.t.fail();
        c.failsAt(fail, 7, 0);
        c.fillNodes(79);
        c.failsAt(c.t.over(1, 1), 8, 79);
    }

    static void promise06_where_is_the_innermost(Case c) {
        int fail = c.t.fail();
        int node = fail;
        for (int i = 0; i < 10; i++) {
            node = c.t.note(i, c.t.set(1, node));
        }
        c.failsAt(node, 7, fail);
    }

    static void promise06_where_is_the_node_whose_part_was_of_the_wrong_kind(Case c) {
        int nul = c.t.nul();
        int plus = c.t.plus(nul, nul);
        c.failsAt(c.t.set(1, plus), 9, plus);
        int at = c.t.at(c.t.number(1), nul);
        c.failsAt(c.t.note(1, at), 9, at);
        int filled = c.t.filled(20, nul);
        c.failsAt(c.t.length(filled), 9, filled);
    }

    static void promise06_where_is_none_when_it_was_taken_by_a_catch(Case c) {
        int fail = c.t.fail();
        c.failsAt(fail, 7, fail);
        c.comes(c.t.caught(fail, c.t.number(1), 0), Case.NUMBER, 1);
        c.is("where()", c.rules.where(), NONE);
    }

    static void promise06_where_is_the_next_that_failed_behind_one_that_was_taken(Case c) {
        int fail = c.t.fail();
        int other = c.t.over(c.t.number(1), c.t.number(0));
        c.failsAt(c.t.then(c.t.caught(fail, c.t.number(1), 0), other), 8, other);
        c.failsAt(c.t.caught(fail, other, 0), 8, other);
    }

    static void promise06_where_is_none_again_behind_a_run_that_does_not_fail(Case c) {
        c.rules.run(c.t.fail());
        c.comes(c.t.number(1), Case.NUMBER, 1);
        c.is("where()", c.rules.where(), NONE);
    }

    static void promise06_where_is_a_list_that_was_to_be_worked(Case c) {
        int list = c.t.list(c.t.number(1));
        c.failsAt(c.t.plus(c.t.number(1), list), 9, list);
        c.failsAt(c.t.filled(20, list), 9, list);
        c.failsAt(c.t.varied(20, list), 9, list);
    }

    // ---- promise 7

    static void promise07_worked_of_no_run_is_0_of_one_node_1(Case c) {
        c.is("worked()", c.rules.worked(), 0);
        c.rules.run(c.t.number(1));
        c.is("worked()", c.rules.worked(), 1);
    }

    static void promise07_worked_counts_a_node_as_often_as_it_is_worked(Case c) {
        int node = c.t.number(1);
        for (int i = 0; i < 10; i++) {
            node = c.t.plus(node, node);
        }
        c.comes(node, Case.NUMBER, 1024);
        c.is("worked()", c.rules.worked(), 2047);
    }

    static void promise07_worked_counts_what_failed_and_nothing_behind_it(Case c) {
        c.rules.run(c.t.fail());
        c.is("worked()", c.rules.worked(), 1);
        c.rules.run(c.t.then(c.t.fail(), c.t.number(1)));
        c.is("worked()", c.rules.worked(), 2);
        c.rules.run(c.t.choose(c.t.number(0), c.t.fail(), c.t.number(1)));
        c.is("worked()", c.rules.worked(), 3);
        c.rules.run(c.t.caught(c.t.number(1), c.t.fail(), 0));
        c.is("worked()", c.rules.worked(), 2);
        c.rules.run(c.t.caught(c.t.fail(), c.t.number(1), 0));
        c.is("worked()", c.rules.worked(), 3);
    }

    static void promise07_worked_does_not_count_lists(Case c) {
        int one = c.t.number(1);
        int list = c.t.list(one, one);
        c.rules.run(list);
        c.is("worked() of a LIST", c.rules.worked(), 0);
        c.rules.run(c.t.plus(one, list));
        c.is("worked() of a LIST as a part", c.rules.worked(), 2);
        c.rules.run(c.t.varied(20));
        c.is("worked() with no NODES", c.rules.worked(), 1);
        c.rules.run(c.t.varied(20, one, one));
        c.is("worked() with two NODES", c.rules.worked(), 3);
    }

    static void promise07_worked_is_3000_at_most(Case c) {
        c.rules.run(c.t.each(c.t.make(16, c.t.number(2997)), 0, c.t.number(1)));
        c.is("worked()", c.rules.worked(), 3000);
        Case more = c.another();
        more.rules.run(more.t.each(more.t.make(16, more.t.number(3900)), 0, more.t.number(1)));
        more.is("worked()", more.rules.worked(), 3000);
        more.rules.run(0);
        more.is("worked()", more.rules.worked(), 1);
    }

    // ---- promises 8, 9

    private static int noting(Case c, int times) {
        return c.t.each(c.t.make(16, c.t.number(times)), 0, c.t.note(6, c.t.number(1)));
    }

    static void promise08_notes_of_no_run_and_of_one_without_any_are_0(Case c) {
        c.is("notes()", c.rules.notes(), 0);
        c.rules.run(c.t.number(1));
        c.is("notes()", c.rules.notes(), 0);
    }

    static void promise08_notes_255_256_257_and_more_that_are_not_kept(Case c) {
        for (int times : new int[] {255, 256, 257, 1000}) {
            Case one = c.another();
            one.rules.run(noting(one, times));
            one.is("notes()", one.rules.notes(), times);
        }
    }

    static void promise08_notes_of_a_run_that_failed_and_of_what_was_caught(Case c) {
        int fail = c.t.note(1, c.t.fail());
        c.rules.run(fail);
        c.noted(1);
        c.rules.run(c.t.caught(fail, c.t.note(2, c.t.number(1)), 0));
        c.noted(1, 2);
    }

    static void promise08_notes_up_to_the_3000th_node(Case c) {
        c.is("run", c.rules.run(noting(c, 1600)), -20);
        c.is("notes()", c.rules.notes(), 1499);
    }

    static void promise09_note_of_an_empty_trace_is_outside(Case c) {
        for (int none : new int[] {-1, 0, 1, 255, 256, MOST, LEAST}) {
            c.is("note(" + none + ")", c.rules.note(none), OUTSIDE);
        }
        c.rules.run(c.t.number(1));
        c.is("note(0)", c.rules.note(0), OUTSIDE);
    }

    static void promise09_note_the_first_and_the_last_not_the_next(Case c) {
        c.rules.run(c.t.note(5, c.t.note(6, c.t.note(7, c.t.number(1)))));
        c.is("note(0)", c.rules.note(0), 5);
        c.is("note(2)", c.rules.note(2), 7);
        for (int none : new int[] {-1, 3, 255, 256, MOST, LEAST}) {
            c.is("note(" + none + ")", c.rules.note(none), OUTSIDE);
        }
    }

    static void promise09_note_255_is_kept_256_is_not(Case c) {
        int last = c.t.note(8, c.t.note(9, c.t.number(1)));
        c.rules.run(c.t.then(noting(c, 255), last));
        c.is("notes()", c.rules.notes(), 257);
        c.is("note(254)", c.rules.note(254), 6);
        c.is("note(255)", c.rules.note(255), 8);
        c.is("note(256)", c.rules.note(256), OUTSIDE);
        c.is("note(257)", c.rules.note(257), OUTSIDE);
    }

    static void promise09_note_255_is_outside_when_there_are_255(Case c) {
        c.rules.run(c.t.then(noting(c, 254), c.t.note(8, c.t.number(1))));
        c.is("note(254)", c.rules.note(254), 8);
        c.is("note(255)", c.rules.note(255), OUTSIDE);
    }

    static void promise09_note_of_a_longer_run_before_is_outside(Case c) {
        c.rules.run(noting(c, 256));
        c.rules.run(c.t.note(3, c.t.number(1)));
        c.is("note(0)", c.rules.note(0), 3);
        c.is("note(1)", c.rules.note(1), OUTSIDE);
        c.is("note(255)", c.rules.note(255), OUTSIDE);
    }

    // ---- promises 10, 11

    static void promise10_has_of_variables_0_and_7_not_of_minus_1_and_8(Case c) {
        c.rules.run(c.t.set(0, c.t.nul()));
        c.rules.run(c.t.set(7, c.t.instance(8)));
        c.is("has(0)", c.rules.has(0), Case.NULL);
        c.is("has(1)", c.rules.has(1), Case.NUMBER);
        c.is("has(7)", c.rules.has(7), Case.THING);
        for (int none : new int[] {-1, 8, MOST, LEAST}) {
            c.is("has(" + none + ")", c.rules.has(none), OUTSIDE);
        }
    }

    static void promise10_has_0_of_numbers_that_are_those_of_null_and_things(Case c) {
        c.keep(1, c.t.instance(8));
        c.rules.run(c.t.set(2, c.t.number(-1)));
        c.rules.run(c.t.set(3, c.t.number(0)));
        c.is("has(1)", c.rules.has(1), Case.THING);
        c.is("has(2)", c.rules.has(2), Case.NUMBER);
        c.is("has(3)", c.rules.has(3), Case.NUMBER);
        c.rules.run(c.t.set(1, c.t.number(0)));
        c.is("has(1)", c.rules.has(1), Case.NUMBER);
    }

    static void promise11_get_of_variables_0_and_7_is_0_of_minus_1_and_8(Case c) {
        c.rules.run(c.t.set(0, c.t.number(11)));
        c.rules.run(c.t.set(7, c.t.number(18)));
        c.is("get(0)", c.rules.get(0), 11);
        c.is("get(7)", c.rules.get(7), 18);
        for (int none : new int[] {-1, 8, MOST, LEAST}) {
            c.is("get(" + none + ")", c.rules.get(none), 0);
        }
    }

    static void promise11_get_of_null_is_none_of_a_thing_its_number(Case c) {
        c.rules.run(c.t.set(0, c.t.nul()));
        c.is("get(0)", c.rules.get(0), NONE);
        c.keep(0, c.t.instance(8));
        c.is("get(0)", c.rules.get(0), 0);
        c.keep(0, c.t.instance(8));
        c.is("get(0)", c.rules.get(0), 1);
    }

    static void promise11_get_of_the_least_and_the_greatest_number(Case c) {
        c.wide(0, Long.MIN_VALUE);
        c.wide(7, Long.MAX_VALUE);
        c.is("get(0)", c.rules.get(0), Long.MIN_VALUE);
        c.is("get(7)", c.rules.get(7), Long.MAX_VALUE);
    }

    // ---- promise 12

    static void promise12_thing_the_first_and_the_last_not_the_next(Case c) {
        c.comes(c.t.instance(11), Case.THING, 0);
        c.comes(c.t.filled(20), Case.THING, 1);
        c.is("thing(0, 0)", c.rules.thing(0, 0), 11);
        c.is("thing(1, 0)", c.rules.thing(1, 0), 20);
        for (int none : new int[] {-1, 2, 399, 400, MOST, LEAST}) {
            for (int what = 0; what < 3; what++) {
                c.is("thing(" + none + ", " + what + ")", c.rules.thing(none, what), OUTSIDE);
            }
        }
    }

    static void promise12_thing_the_400th(Case c) {
        c.keep(0, c.t.make(32, c.t.number(398), c.t.number(0)));
        c.is("thing(399, 0)", c.rules.thing(399, 0), OUTSIDE);
        c.rules.run(c.t.instance(10));
        c.is("thing(399, 0)", c.rules.thing(399, 0), 10);
        c.is("thing(400, 0)", c.rules.thing(400, 0), OUTSIDE);
    }

    static void promise12_thing_what_is_0_to_2(Case c) {
        c.comes(c.t.filled(20, c.t.number(1)), Case.THING, 0);
        c.is("thing(0, 0)", c.rules.thing(0, 0), 20);
        c.is("thing(0, 1)", c.rules.thing(0, 1), 1);
        c.is("thing(0, 2)", c.rules.thing(0, 2), 0);
        for (int none : new int[] {-1, 3, MOST, LEAST}) {
            c.is("thing(0, " + none + ")", c.rules.thing(0, none), OUTSIDE);
            c.is("thing(1, " + none + ")", c.rules.thing(1, none), OUTSIDE);
        }
    }

    static void promise12_thing_length_is_none_of_an_instance_0_of_an_empty_array(Case c) {
        for (int type : new int[] {8, 10, 11}) {
            Case one = c.another();
            one.comes(one.t.instance(type), Case.THING, 0);
            one.is("thing(0, 0)", one.rules.thing(0, 0), type);
            one.is("thing(0, 1)", one.rules.thing(0, 1), NONE);
            one.is("thing(0, 2)", one.rules.thing(0, 2), 0);
        }
        c.comes(c.t.filled(59), Case.THING, 0);
        c.is("thing(0, 1)", c.rules.thing(0, 1), 0);
        c.is("thing(0, 2)", c.rules.thing(0, 2), 0);
        c.comes(c.t.make(16, c.t.number(4000)), Case.THING, 1);
        c.is("thing(1, 1)", c.rules.thing(1, 1), 4000);
    }

    static void promise12_thing_counts_things_among_its_elements_not_null_or_numbers(Case c) {
        int thing = c.keep(0, c.t.instance(8));
        int nul = c.t.nul();
        c.comes(c.t.filled(24, nul, nul), Case.THING, 1);
        c.comes(c.t.filled(24, nul, thing), Case.THING, 2);
        c.comes(c.t.filled(24, thing, nul), Case.THING, 3);
        c.comes(c.t.filled(24, thing, thing), Case.THING, 4);
        int[] due = {0, 0, 1, 1, 2};
        for (int i = 0; i < 5; i++) {
            c.is("thing(" + i + ", 2)", c.rules.thing(i, 2), due[i]);
        }
        c.comes(c.t.filled(21, c.t.number(0), c.t.number(1), c.t.number(-1)), Case.THING, 5);
        c.is("thing(5, 2)", c.rules.thing(5, 2), 0);
        c.comes(c.t.make(36, c.t.number(3), c.t.number(2)), Case.THING, 6);
        c.is("thing(6, 2)", c.rules.thing(6, 2), 3);
    }

    // ---- promise 13

    static void promise13_element_the_first_and_the_last_is_0_of_no_such(Case c) {
        c.keep(1, c.t.filled(20, c.t.number(4), c.t.number(5), c.t.number(6)));
        c.keep(2, c.t.filled(20, c.t.number(9)));
        c.is("element(0, 0)", c.rules.element(0, 0), 4);
        c.is("element(0, 2)", c.rules.element(0, 2), 6);
        c.is("element(1, 0)", c.rules.element(1, 0), 9);
        for (int none : new int[] {-1, 3, 4, 4000, MOST, LEAST}) {
            c.is("element(0, " + none + ")", c.rules.element(0, none), 0);
        }
        c.is("element(1, -1)", c.rules.element(1, -1), 0);
        for (int none : new int[] {-1, 2, 400, MOST, LEAST}) {
            c.is("element(" + none + ", 0)", c.rules.element(none, 0), 0);
        }
    }

    static void promise13_element_of_an_empty_array_or_an_instance_is_0(Case c) {
        c.comes(c.t.filled(24), Case.THING, 0);
        c.comes(c.t.instance(11), Case.THING, 1);
        c.comes(c.t.filled(20, c.t.number(8)), Case.THING, 2);
        for (int thing = 0; thing < 2; thing++) {
            for (int i = -1; i < 2; i++) {
                c.is("element(" + thing + ", " + i + ")", c.rules.element(thing, i), 0);
            }
        }
    }

    static void promise13_element_that_is_null_is_none_that_is_no_such_is_0(Case c) {
        c.keep(0, c.t.make(27, c.t.number(2)));
        c.is("element(0, 1)", c.rules.element(0, 1), NONE);
        c.is("element(0, 2)", c.rules.element(0, 2), 0);
        c.is("element(0, -1)", c.rules.element(0, -1), 0);
    }

    static void promise13_element_that_is_the_first_thing_or_the_last(Case c) {
        c.keep(0, c.t.make(40, c.t.number(398), c.t.number(0)));
        c.comes(c.t.instance(8), Case.THING, 399);
        c.is("element(0, 0)", c.rules.element(0, 0), 1);
        c.is("element(0, 397)", c.rules.element(0, 397), 398);
        c.is("element(0, 398)", c.rules.element(0, 398), 0);
        Case own = c.another();
        int array = own.keep(0, own.t.make(24, own.t.number(1)));
        own.comes(own.t.put(array, own.t.number(0), array), Case.THING, 0);
        own.is("element(0, 0)", own.rules.element(0, 0), 0);
    }

    static void promise13_element_of_the_400th_thing_and_of_the_401st(Case c) {
        c.keep(0, c.t.make(32, c.t.number(398), c.t.number(0)));
        c.comes(c.t.filled(20, c.t.number(6)), Case.THING, 399);
        c.is("element(399, 0)", c.rules.element(399, 0), 6);
        c.is("bits(399, 0)", c.rules.bits(399, 0), 6);
        c.is("element(400, 0)", c.rules.element(400, 0), 0);
        c.is("bits(400, 0)", c.rules.bits(400, 0), 0);
    }

    static void promise13_element_the_4000th(Case c) {
        int array = c.keep(0, c.t.make(21, c.t.number(4000)));
        c.comes(c.t.put(array, c.t.number(3999), c.t.number(-6)), Case.NUMBER, -6);
        c.is("element(0, 3999)", c.rules.element(0, 3999), -6);
        c.is("element(0, 3998)", c.rules.element(0, 3998), 0);
        c.is("element(0, 4000)", c.rules.element(0, 4000), 0);
    }

    static void promise13_element_the_least_and_the_greatest_of_64_bits(Case c) {
        c.wide(0, Long.MIN_VALUE);
        c.wide(1, Long.MAX_VALUE);
        c.comes(c.t.filled(21, c.t.get(0), c.t.get(1)), Case.THING, 0);
        c.elements(0, Long.MIN_VALUE, Long.MAX_VALUE);
    }

    // ---- promise 15

    static void promise15_sub_types_0_to_59_without_bases_12_to_15(Case c) {
        for (int dims = 0; dims < 4; dims++) {
            c.is("the first BASE", c.rules.sub(16 * dims, 16 * dims), 1);
            c.is("the last BASE", c.rules.sub(16 * dims + 11, 16 * dims + 11), 1);
            for (int base = 12; base < 16; base++) {
                int none = 16 * dims + base;
                c.is("sub(" + none + ", 8)", c.rules.sub(none, 8), OUTSIDE);
                c.is("sub(8, " + none + ")", c.rules.sub(8, none), OUTSIDE);
                c.is("sub(" + none + ", " + none + ")", c.rules.sub(none, none), OUTSIDE);
            }
        }
    }

    static void promise15_sub_of_what_is_no_type_is_outside(Case c) {
        for (int none : new int[] {-1, -16, -8, 64, 68, 72, 80, MOST, LEAST, LEAST + 8}) {
            c.is("sub(" + none + ", 8)", c.rules.sub(none, 8), OUTSIDE);
            c.is("sub(8, " + none + ")", c.rules.sub(8, none), OUTSIDE);
            c.is("sub(" + none + ", " + none + ")", c.rules.sub(none, none), OUTSIDE);
        }
    }

    static void promise15_sub_every_type_to_itself(Case c) {
        for (int type = 0; type < 64; type++) {
            if (type % 16 < 12) {
                c.is("sub(" + type + ", " + type + ")", c.rules.sub(type, type), 1);
            }
        }
    }

    static void promise15_sub_numbers_only_to_themselves(Case c) {
        for (int base = 0; base < 8; base++) {
            for (int other = 0; other < 12; other++) {
                c.is("sub(" + base + ", " + other + ")", c.rules.sub(base, other), base == other ? 1 : 0);
                c.is("sub(" + other + ", " + base + ")", c.rules.sub(other, base), base == other ? 1 : 0);
            }
        }
    }

    static void promise15_sub_leaf_root_named_object(Case c) {
        int[][] due = {{1, 0, 0, 0}, {1, 1, 0, 0}, {1, 1, 1, 0}, {1, 1, 1, 1}};
        for (int type = 8; type < 12; type++) {
            for (int other = 8; other < 12; other++) {
                for (int dims = 0; dims < 64; dims += 16) {
                    c.is("sub(" + (type + dims) + ", " + (other + dims) + ")",
                        c.rules.sub(type + dims, other + dims), due[type - 8][other - 8]);
                }
            }
        }
    }

    static void promise15_sub_arrays_to_object_not_to_named_root_leaf(Case c) {
        for (int type = 16; type < 64; type++) {
            if (type % 16 < 12) {
                c.is("sub(" + type + ", 8)", c.rules.sub(type, 8), 1);
                for (int other = 9; other < 12; other++) {
                    c.is("sub(" + type + ", " + other + ")", c.rules.sub(type, other), 0);
                }
                c.is("sub(8, " + type + ")", c.rules.sub(8, type), 0);
            }
        }
    }

    static void promise15_sub_arrays_of_arrays_to_those_of_object_not_those_of_named(Case c) {
        int[] yes = {32 + 4, 24, 48 + 4, 24, 48 + 4, 40, 48, 40, 59, 24, 59, 40, 43, 24};
        for (int i = 0; i < yes.length; i += 2) {
            c.is("sub(" + yes[i] + ", " + yes[i + 1] + ")", c.rules.sub(yes[i], yes[i + 1]), 1);
        }
        int[] no = {20, 24, 36, 40, 52, 56, 36, 25, 43, 26, 43, 27, 52, 41, 24, 40, 40, 56, 24, 36, 36, 20, 20, 36};
        for (int i = 0; i < no.length; i += 2) {
            c.is("sub(" + no[i] + ", " + no[i + 1] + ")", c.rules.sub(no[i], no[i + 1]), 0);
        }
    }

    static void promise15_sub_arrays_of_numbers_only_to_the_same_base(Case c) {
        for (int base = 0; base < 8; base++) {
            for (int other = 0; other < 8; other++) {
                for (int dims = 16; dims < 64; dims += 16) {
                    c.is("sub(" + (base + dims) + ", " + (other + dims) + ")",
                        c.rules.sub(base + dims, other + dims), base == other ? 1 : 0);
                }
            }
        }
    }

    // ---- promise 16

    static void promise16_told_what_is_0_to_2(Case c) {
        c.keep(0, c.t.filled(20, c.t.number(1), c.t.number(2)));
        c.is("told(0)", c.rules.told(0), 7);
        c.is("told(1)", c.rules.told(1), 1);
        c.is("told(2)", c.rules.told(2), 2);
        for (int none : new int[] {-1, 3, MOST, LEAST}) {
            c.is("told(" + none + ")", c.rules.told(none), OUTSIDE);
        }
    }

    static void promise16_told_80_nodes_at_most(Case c) {
        c.fillNodes(80);
        c.is("told(0)", c.rules.told(0), 80);
        c.rules.node(0, 0, 0, 0, 0);
        c.is("told(0)", c.rules.told(0), 80);
        c.rules.clear();
        c.is("told(0)", c.rules.told(0), 0);
    }

    static void promise16_told_400_things_at_most(Case c) {
        int thing = c.t.instance(8);
        for (int i = 1; i <= 403; i++) {
            c.is("run", c.rules.run(thing), i <= 400 ? Case.THING : -16);
        }
        c.told(400, 0);
    }

    static void promise16_told_4000_elements_at_most(Case c) {
        c.keep(0, c.t.make(16, c.t.number(3999)));
        c.told(1, 3999);
        int one = c.t.filled(20, c.t.number(1));
        c.comes(one, Case.THING, 1);
        c.told(2, 4000);
        c.fails(one, 6);
        c.told(2, 4000);
    }

    static void promise16_told_things_stay_behind_clear_and_a_failing(Case c) {
        c.rules.run(c.t.then(c.t.make(20, c.t.number(3)), c.t.fail()));
        c.told(1, 3);
        c.rules.clear();
        c.told(1, 3);
        c.rules.run(c.t.nul());
        c.told(1, 3);
    }
}
