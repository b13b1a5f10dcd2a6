/**
 * The boundary cases of numbers: CUT to each BASE by CAST and PUT, going round by ADD and STEP
 * (promise 4), and the bits of floats and doubles (promise 14).
 */
final class NumberCases {
    private static final int MOST = Integer.MAX_VALUE, LEAST = Integer.MIN_VALUE;
    private static final long TWO_24 = 1L << 24, TWO_53 = 1L << 53;

    /** A number and what it is when CUT: by CAST, and by PUT as the ELEMENT and the VALUE. */
    private static void cut(Case c, int base, long number, long due) {
        Case one = c.another();
        one.wide(0, number);
        int wide = one.t.get(0);
        one.comes(one.t.cast(base, wide), Case.NUMBER, due);
        int array = one.keep(1, one.t.make(16 + base, one.t.number(1)));
        one.comes(one.t.put(array, one.t.number(0), wide), Case.NUMBER, due);
        one.elements(0, due);
        one.comes(one.t.at(array, one.t.number(0)), Case.NUMBER, due);
    }

    static void promise04_cut_to_boolean_is_1_of_all_but_0(Case c) {
        cut(c, 0, 0, 0);
        for (long number : new long[] {1, -1, 2, 256, 1L << 32, Long.MIN_VALUE, Long.MAX_VALUE}) {
            cut(c, 0, number, 1);
        }
    }

    static void promise04_cut_to_byte_goes_round_at_127_and_minus_128(Case c) {
        cut(c, 1, 127, 127);
        cut(c, 1, 128, -128);
        cut(c, 1, -128, -128);
        cut(c, 1, -129, 127);
        cut(c, 1, 255, -1);
        cut(c, 1, 256, 0);
        cut(c, 1, Long.MIN_VALUE, 0);
        cut(c, 1, Long.MAX_VALUE, -1);
    }

    static void promise04_cut_to_char_has_no_sign_and_goes_round_at_65535_and_0(Case c) {
        cut(c, 2, 65535, 65535);
        cut(c, 2, 65536, 0);
        cut(c, 2, 0, 0);
        cut(c, 2, -1, 65535);
        cut(c, 2, 32768, 32768);
        cut(c, 2, -32768, 32768);
        cut(c, 2, Long.MIN_VALUE, 0);
        cut(c, 2, Long.MAX_VALUE, 65535);
    }

    static void promise04_cut_to_short_goes_round_at_32767_and_minus_32768(Case c) {
        cut(c, 3, 32767, 32767);
        cut(c, 3, 32768, -32768);
        cut(c, 3, -32768, -32768);
        cut(c, 3, -32769, 32767);
        cut(c, 3, 65536, 0);
        cut(c, 3, Long.MAX_VALUE, -1);
    }

    static void promise04_cut_to_int_goes_round_at_its_greatest_and_least(Case c) {
        cut(c, 4, MOST, MOST);
        cut(c, 4, MOST + 1L, LEAST);
        cut(c, 4, LEAST, LEAST);
        cut(c, 4, LEAST - 1L, MOST);
        cut(c, 4, 1L << 32, 0);
        cut(c, 4, Long.MAX_VALUE, -1);
        cut(c, 4, Long.MIN_VALUE, 0);
    }

    static void promise04_cut_to_long_leaves_all_64_bits(Case c) {
        for (long number : new long[] {0, -1, MOST + 1L, LEAST - 1L, Long.MAX_VALUE, Long.MIN_VALUE, TWO_53 + 1}) {
            cut(c, 5, number, number);
        }
    }

    static void promise04_cut_to_float_is_the_nearest_and_of_two_the_one_that_ends_even(Case c) {
        cut(c, 6, TWO_24 - 1, TWO_24 - 1);
        cut(c, 6, TWO_24, TWO_24);
        cut(c, 6, TWO_24 + 1, TWO_24);
        cut(c, 6, TWO_24 + 2, TWO_24 + 2);
        cut(c, 6, TWO_24 + 3, TWO_24 + 4);
        cut(c, 6, -TWO_24 - 1, -TWO_24);
        cut(c, 6, -TWO_24 - 3, -TWO_24 - 4);
        cut(c, 6, 2 * TWO_24 + 2, 2 * TWO_24);
        cut(c, 6, 2 * TWO_24 + 3, 2 * TWO_24 + 4);
        cut(c, 6, 2 * TWO_24 + 6, 2 * TWO_24 + 8);
        cut(c, 6, MOST, 1L << 31);
        cut(c, 6, LEAST, LEAST);
    }

    static void promise04_cut_to_float_is_not_by_way_of_a_double(Case c) {
        long number = (1L << 60) + (1L << 36) + 1;
        cut(c, 6, number, (1L << 60) + (1L << 37));
        cut(c, 6, number - 1, 1L << 60);
        cut(c, 6, -number, -(1L << 60) - (1L << 37));
    }

    static void promise04_cut_to_double_is_the_nearest_and_of_two_the_one_that_ends_even(Case c) {
        cut(c, 7, TWO_53 - 1, TWO_53 - 1);
        cut(c, 7, TWO_53, TWO_53);
        cut(c, 7, TWO_53 + 1, TWO_53);
        cut(c, 7, TWO_53 + 2, TWO_53 + 2);
        cut(c, 7, TWO_53 + 3, TWO_53 + 4);
        cut(c, 7, -TWO_53 - 1, -TWO_53);
        cut(c, 7, -TWO_53 - 3, -TWO_53 - 4);
        cut(c, 7, 2 * TWO_53 + 2, 2 * TWO_53);
        cut(c, 7, 2 * TWO_53 + 3, 2 * TWO_53 + 4);
        cut(c, 7, TWO_24 + 1, TWO_24 + 1);
    }

    static void promise04_cut_to_float_or_double_above_the_greatest_of_64_bits_is_that(Case c) {
        for (int base = 6; base < 8; base++) {
            cut(c, base, Long.MAX_VALUE, Long.MAX_VALUE);
            cut(c, base, Long.MIN_VALUE, Long.MIN_VALUE);
            cut(c, base, Long.MIN_VALUE + 1, Long.MIN_VALUE);
        }
        cut(c, 7, Long.MAX_VALUE - 511, Long.MAX_VALUE);
        cut(c, 7, Long.MAX_VALUE - 512, Long.MAX_VALUE - 1023);
        // The half way to 2^63 ends even there; one less comes to the float below it.
        cut(c, 6, 0x7fffffc000000000L, Long.MAX_VALUE);
        cut(c, 6, 0x7fffffc000000000L - 1, 0x7fffff8000000000L);
    }

    // ---- ADD and STEP, going round

    private static void added(Case c, int base, long before, long more, long due) {
        Case one = c.another();
        one.wide(0, before);
        one.wide(1, more);
        int array = one.keep(2, one.t.filled(16 + base, one.t.get(0)));
        one.comes(one.t.add(array, one.t.number(0), one.t.get(1)), Case.NUMBER, due);
        one.elements(0, due);
    }

    private static void stepped(Case c, int base, long before, long due) {
        Case one = c.another();
        one.wide(0, before);
        int array = one.keep(2, one.t.filled(16 + base, one.t.get(0)));
        one.comes(one.t.step(array, one.t.number(0)), Case.NUMBER, before);
        one.elements(0, due);
    }

    static void promise04_add_goes_round_in_byte_char_short_int_long(Case c) {
        added(c, 1, 127, 1, -128);
        added(c, 1, -128, -1, 127);
        added(c, 1, 5, 1L << 40, 5);
        added(c, 2, 65535, 1, 0);
        added(c, 2, 0, -1, 65535);
        added(c, 3, 32767, 1, -32768);
        added(c, 3, -32768, -1, 32767);
        added(c, 4, MOST, 1, LEAST);
        added(c, 4, LEAST, -1, MOST);
        added(c, 4, MOST, (1L << 32) + 1, LEAST);
        added(c, 5, MOST, 1, MOST + 1L);
        added(c, 5, Long.MAX_VALUE, 1, Long.MIN_VALUE);
        added(c, 5, Long.MIN_VALUE, -1, Long.MAX_VALUE);
        added(c, 5, Long.MIN_VALUE, Long.MIN_VALUE, 0);
    }

    static void promise04_add_to_float_cuts_z_first_and_then_the_sum(Case c) {
        added(c, 6, TWO_24, 1, TWO_24);
        added(c, 6, TWO_24 + 2, 1, TWO_24 + 4);
        added(c, 6, 1, TWO_24 + 1, TWO_24);
        added(c, 6, 4, TWO_24 + 3, TWO_24 + 8);
        added(c, 6, -TWO_24, TWO_24 + 1, 0);
        added(c, 6, 3, -3, 0);
    }

    static void promise04_add_to_double_cuts_z_first_and_then_the_sum(Case c) {
        added(c, 7, TWO_53, 1, TWO_53);
        added(c, 7, TWO_53 + 2, 1, TWO_53 + 4);
        added(c, 7, 1, TWO_53 + 1, TWO_53);
        added(c, 7, -TWO_53, TWO_53 + 1, 0);
        added(c, 7, -TWO_24, TWO_24 + 1, 1);
    }

    static void promise04_add_to_float_and_double_goes_beyond_64_bits_and_back(Case c) {
        for (int base = 6; base < 8; base++) {
            Case one = c.another();
            one.wide(0, Long.MAX_VALUE);
            one.wide(1, Long.MIN_VALUE);
            int up = one.t.get(0);
            int down = one.t.get(1);
            int zero = one.t.number(0);
            int array = one.keep(2, one.t.make(16 + base, one.t.number(1)));
            int addUp = one.t.add(array, zero, up);
            int addDown = one.t.add(array, zero, down);
            one.comes(addUp, Case.NUMBER, Long.MAX_VALUE);
            one.comes(addUp, Case.NUMBER, Long.MAX_VALUE);
            one.comes(one.t.at(array, zero), Case.NUMBER, Long.MAX_VALUE);
            one.comes(one.t.step(array, zero), Case.NUMBER, Long.MAX_VALUE);
            one.comes(addDown, Case.NUMBER, Long.MAX_VALUE);
            one.comes(addDown, Case.NUMBER, 0);
            one.comes(addDown, Case.NUMBER, Long.MIN_VALUE);
            one.comes(addDown, Case.NUMBER, Long.MIN_VALUE);
            one.comes(one.t.each(array, 3, zero), Case.NUMBER, 1);
            one.is("get(3)", one.rules.get(3), Long.MIN_VALUE);
            one.comes(addUp, Case.NUMBER, Long.MIN_VALUE);
            one.comes(addUp, Case.NUMBER, 0);
        }
    }

    static void promise04_step_goes_round_and_its_value_is_the_one_before(Case c) {
        stepped(c, 1, 127, -128);
        stepped(c, 1, -1, 0);
        stepped(c, 2, 65535, 0);
        stepped(c, 3, 32767, -32768);
        stepped(c, 4, MOST, LEAST);
        stepped(c, 5, MOST, MOST + 1L);
        stepped(c, 5, Long.MAX_VALUE, Long.MIN_VALUE);
        stepped(c, 6, TWO_24 - 1, TWO_24);
        stepped(c, 6, TWO_24, TWO_24);
        stepped(c, 6, TWO_24 + 2, TWO_24 + 4);
        stepped(c, 6, -1, 0);
        stepped(c, 7, TWO_24, TWO_24 + 1);
        stepped(c, 7, TWO_53 - 1, TWO_53);
        stepped(c, 7, TWO_53, TWO_53);
        stepped(c, 7, TWO_53 + 2, TWO_53 + 4);
    }

    // ---- bits

    private static void bits(Case c, int base, long number, long due) {
        Case one = c.another();
        one.wide(0, number);
        one.comes(one.t.filled(16 + base, one.t.number(77), one.t.get(0)), Case.THING, 0);
        one.is("bits of " + number, one.rules.bits(0, 1), due);
    }

    private static void bothBits(Case c, long number) {
        bits(c, 6, number, Float.floatToIntBits((float) number));
        bits(c, 7, number, Double.doubleToLongBits((double) number));
    }

    static void promise14_bits_of_0_are_0_and_of_1_those_of_exponent_0(Case c) {
        bits(c, 6, 0, 0);
        bits(c, 7, 0, 0);
        bits(c, 6, 1, 0x3f800000L);
        bits(c, 7, 1, 0x3ff0000000000000L);
    }

    static void promise14_bits_of_a_float_are_32_with_sign(Case c) {
        bits(c, 6, -1, 0xffffffffbf800000L);
        bits(c, 6, -2, 0xffffffffc0000000L);
        bits(c, 7, -1, 0xbff0000000000000L);
        bits(c, 6, 2, 0x40000000L);
    }

    static void promise14_bits_where_the_fraction_is_full(Case c) {
        for (long full : new long[] {2, TWO_24, TWO_53}) {
            for (long number = full - 1; number <= full + 3; number++) {
                bothBits(c, number);
                bothBits(c, -number);
            }
        }
    }

    static void promise14_bits_of_the_greatest_and_the_least_of_64_bits(Case c) {
        bothBits(c, Long.MAX_VALUE);
        bothBits(c, Long.MIN_VALUE);
        bothBits(c, Long.MAX_VALUE - 512);
        bothBits(c, Long.MIN_VALUE + 513);
    }

    static void promise14_bits_beyond_64_bits_tell_more_than_element(Case c) {
        for (int base = 6; base < 8; base++) {
            for (long number : new long[] {Long.MAX_VALUE, Long.MIN_VALUE}) {
                Case one = c.another();
                one.wide(0, number);
                int array = one.keep(1, one.t.filled(16 + base, one.t.get(0)));
                int add = one.t.add(array, one.t.number(0), one.t.get(0));
                double due = (double) number;
                for (int i = 0; i < 20; i++) {
                    one.comes(add, Case.NUMBER, number);
                    due = base == 6 ? (float) due + (float) number : due + (double) number;
                    long bits = base == 6 ? Float.floatToIntBits((float) due) : Double.doubleToLongBits(due);
                    one.is("bits", one.rules.bits(0, 0), bits);
                    one.is("element", one.rules.element(0, 0), number);
                }
            }
        }
    }

    static void promise14_bits_of_0_that_was_added_up_to_have_no_sign(Case c) {
        for (int base = 6; base < 8; base++) {
            Case one = c.another();
            int array = one.keep(0, one.t.filled(16 + base, one.t.number(-3)));
            one.comes(one.t.add(array, one.t.number(0), one.t.number(3)), Case.NUMBER, 0);
            one.is("bits", one.rules.bits(0, 0), 0);
        }
    }

    static void promise14_bits_of_other_numbers_are_as_element(Case c) {
        bits(c, 0, 5, 1);
        bits(c, 1, 128, -128);
        bits(c, 2, -1, 65535);
        bits(c, 3, 32768, -32768);
        bits(c, 4, MOST + 1L, LEAST);
        bits(c, 5, Long.MIN_VALUE, Long.MIN_VALUE);
    }

    static void promise14_bits_of_references_are_as_element(Case c) {
        c.comes(c.t.filled(24, c.t.nul(), c.t.instance(8)), Case.THING, 0);
        c.is("bits(0, 0)", c.rules.bits(0, 0), -1);
        c.is("bits(0, 1)", c.rules.bits(0, 1), 1);
        c.comes(c.t.make(38, c.t.number(1), c.t.number(1)), Case.THING, 2);
        c.is("bits of an ARRAY among ARRAYS of float", c.rules.bits(2, 0), 3);
    }

    static void promise14_bits_of_no_such_element_are_0(Case c) {
        int seven = c.t.number(7);
        c.comes(c.t.filled(22, seven), Case.THING, 0);
        c.comes(c.t.filled(23, seven), Case.THING, 1);
        c.comes(c.t.filled(20, seven), Case.THING, 2);
        c.comes(c.t.filled(22), Case.THING, 3);
        c.comes(c.t.instance(8), Case.THING, 4);
        for (int thing = 0; thing < 3; thing++) {
            for (int none : new int[] {-1, 1, 4000, MOST, LEAST}) {
                c.is("bits(" + thing + ", " + none + ")", c.rules.bits(thing, none), 0);
            }
        }
        c.is("bits(0, 0)", c.rules.bits(0, 0), Float.floatToIntBits(7));
        for (int thing : new int[] {3, 4, 5, -1, 400, MOST, LEAST}) {
            c.is("bits(" + thing + ", 0)", c.rules.bits(thing, 0), 0);
        }
    }

    static void promise14_bits_at_the_first_and_the_last(Case c) {
        c.keep(0, c.t.filled(23, c.t.number(1), c.t.number(2), c.t.number(-3)));
        c.is("bits(0, 0)", c.rules.bits(0, 0), Double.doubleToLongBits(1));
        c.is("bits(0, 2)", c.rules.bits(0, 2), Double.doubleToLongBits(-3));
        c.is("bits(0, 3)", c.rules.bits(0, 3), 0);
    }
}
