import java.util.function.ToIntBiFunction;

/** Boundary cases of promises 48 to 53: what a SLOT's row tells. */
final class EdgeTale {
    private static final String FOUR = "prison cells 4 hours 24 row;";

    private EdgeTale() {
    }

    static void ask() {
        refusals();
        fewest();
        sure();
        odd();
        forged();
        forger();
    }

    private static ConsentDoors told(String text, long... row) {
        ConsentDoors x = Check.told(text);
        Check.write(x, 0, row);
        return x;
    }

    private static void refusals() {
        Edge.of(48, "MAY: a SLOT's row, three numbers each: an HOUR, a CELL, 1 that its door opened, 0 that it did not: of how many sets of men, if they turned for nobody,"
                + " it would all be so (tried one by one as told, as if by a PLAN; what else is told stays).");
        Check.due("of none: every set", told(FOUR).refused(0), 16);
        Check.due("it opened", told(FOUR, 0, 1, 1).refused(0), 4);
        Check.due("it did not", told(FOUR, 0, 1, 0).refused(0), 12);
        Check.due("the last of all", told(FOUR, 23, 3, 0).refused(0), 8);
        Check.due("of nine", told("prison cells 9 hours 1 ring;", 0, 8, 1).refused(0), 128);
        Check.due("of nine, none told", told("prison cells 9 hours 1 ring;").refused(0), 512);
        Check.due("who is out does not turn", told(FOUR, 0, 0, 1, 1, 1, 0).refused(0), 8);
        Check.due("who is out does not turn", told(FOUR, 0, 0, 1, 1, 1, 1).refused(0), 0);
        Check.due("out and loyal, he may turn", told(FOUR + Edge.LOYAL, 0, 0, 1, 1, 1, 1).refused(0), 2);
        Check.due("who is out does not come out", told(FOUR, 0, 0, 1, 1, 0, 0).refused(0), 8);
        Check.due("who did not come out is in", told(FOUR, 0, 0, 0, 1, 0, 1).refused(0), 0);
        Check.due("what else is told stays", told(FOUR + "sleeps 1 from 5 to 5;", 5, 0, 0).refused(0), 16);
        Check.due("what else is told stays", told(FOUR + "sleeps 1 from 5 to 5;", 5, 0, 1).refused(0), 0);
        Check.due("the PLAN is aside", told(FOUR + "plan 0 0;", 1, 0, 1).refused(0), 8);
        Check.due("twenty doors", told(FOUR, twenty()).refused(0), 12);
        Edge.of(48, "-2: there is no such SLOT, no PRISON, a number is not so, HOURS do not rise (asked last), not three each;"
                + " -6: it has nothing.");
        askRefusals(true, (x, slot) -> x.refused(slot));
    }

    // Door 1 stays shut from HOUR 0 to 19: 60 numbers.
    private static long[] twenty() {
        long[] row = new long[60];
        for (int i = 0; i < 20; i++) {
            row[3 * i] = i;
            row[3 * i + 1] = 1;
        }
        return row;
    }

    /** The last number may be 0 or 1 in all these tales; of some the HOURS rise. */
    private static void askRefusals(boolean rising, ToIntBiFunction<ConsentDoors, Integer> ask) {
        ConsentDoors x = Check.told(FOUR);
        Check.due("nothing: 0", ask.applyAsInt(x, 0), -6);
        Check.due("nothing: 3", ask.applyAsInt(x, 3), -6);
        for (int slot = 0; slot < 4; slot++) {
            Check.write(x, slot, 0, 0, 1);
        }
        Check.within("slot #", 0, 3, slot -> ask.applyAsInt(x, slot));
        Check.withoutPrison("slot 0", -2, none -> ask.applyAsInt(none, 0));
        Check.due("no PRISON ahead of nothing", ask.applyAsInt(new ConsentDoors(), 0), -2);
        int least = Integer.MIN_VALUE;
        for (long number : new long[] {24, -1, 32, 1L << 32, -1L << 40, Long.MAX_VALUE, Long.MIN_VALUE, least}) {
            Check.due("HOUR " + number, ask.applyAsInt(told(FOUR, number, 0, 0), 0), -2);
            Check.due("a later HOUR " + number, ask.applyAsInt(told(FOUR, 0, 0, 0, number, 0, 0), 0), -2);
        }
        for (long number : new long[] {4, -1, 32, 1L << 32, (1L << 32) + 1, Long.MAX_VALUE, Long.MIN_VALUE, least}) {
            Check.due("CELL " + number, ask.applyAsInt(told(FOUR, 0, number, 0), 0), -2);
            Check.due("a later CELL " + number, ask.applyAsInt(told(FOUR, 0, 0, 0, 1, number, 0), 0), -2);
        }
        for (long number : new long[] {2, -1, 32, 1L << 32, (1L << 32) + 1, Long.MAX_VALUE, Long.MIN_VALUE, least}) {
            Check.due("third " + number, ask.applyAsInt(told(FOUR, 0, 0, number), 0), -2);
            Check.due("a later third " + number, ask.applyAsInt(told(FOUR, 0, 0, 0, 1, 0, number), 0), -2);
        }
        Check.holds("the last HOUR, the last CELL", ask.applyAsInt(told(FOUR, 23, 3, 1), 0) != -2);
        for (int n = 0; n <= 60; n++) {
            long[] row = java.util.Arrays.copyOf(twenty(), n);
            Check.holds(n + " numbers, three each or not", ask.applyAsInt(told(FOUR, row), 0) == -2 ^ n % 3 == 0);
        }
        Check.holds("HOURS rise by two", ask.applyAsInt(told(FOUR, 1, 0, 0, 3, 0, 0), 0) != -2);
        Check.holds("HOURS stay", ask.applyAsInt(told(FOUR, 1, 0, 0, 1, 1, 0), 0) == -2 ^ !rising);
        Check.holds("HOURS fall", ask.applyAsInt(told(FOUR, 2, 0, 0, 1, 1, 0), 0) == -2 ^ !rising);
        Check.holds("HOURS fall at last", ask.applyAsInt(told(FOUR, 0, 0, 0, 7, 1, 0, 6, 1, 0), 0) == -2 ^ !rising);
    }

    private static void fewest() {
        Edge.of(49, "The least of these sets by number of men, then bits.");
        Check.due("nobody", told(FOUR, 0, 1, 1).fewest(0), 0);
        Check.due("of none told", told(FOUR).fewest(0), 0);
        Check.due("one of two, the less", told(FOUR, 0, 1, 0).fewest(0), 1);
        Check.due("the other one turned", told(FOUR, 0, 1, 0, 1, 3, 0, 2, 0, 1).fewest(0), 4);
        Check.due("one alone, 8, ahead of two, 3", told("prison cells 5 hours 9 ring;", 0, 4, 0, 1, 2, 0).fewest(0), 8);
        Check.due("all of three", told("prison cells 3 hours 9 ring;" + "sleeps 2 from 0 to 0; sleeps 1 from 1 to 1; sleeps 0 from 2 to 2;",
                3, 0, 0, 4, 1, 0, 5, 2, 0).fewest(0), 3);
        Check.due("all", told("prison cells 2 hours 2 row;", 0, 0, 0, 1, 1, 0).fewest(0), 3);
        Edge.of(49, "NONE: there is none; -2, -6 likewise.");
        Check.due("none", told(FOUR, 0, 1, 1, 1, 1, 1).fewest(0), -1);
        askRefusals(true, (x, slot) -> x.fewest(slot));
    }

    private static void sure() {
        Edge.of(50, "Men who are of all of these (what 0), of none (1), as bits.");
        ConsentDoors x = told(FOUR, 0, 1, 0, 1, 3, 1);
        // 2 turned for 3, so 0 did not for 1; 1 and 3 are neither of all nor of none.
        Check.due("sure(0, 0)", x.sure(0, 0), 1);
        Check.due("sure(0, 1)", x.sure(0, 1), 4);
        ConsentDoors any = told(FOUR);
        Check.due("of none told: sure(0, 0)", any.sure(0, 0), 0);
        Check.due("of none told: sure(0, 1)", any.sure(0, 1), 0);
        ConsentDoors all = told("prison cells 2 hours 2 row;", 0, 0, 0, 1, 1, 0);
        Check.due("all: sure(0, 0)", all.sure(0, 0), 3);
        Check.due("all: sure(0, 1)", all.sure(0, 1), 0);
        ConsentDoors nobody = told("prison cells 3 hours 4 row;" + Edge.LOYAL.repeat(3), 0, 0, 1, 1, 1, 1);
        Check.due("nobody: sure(0, 0)", nobody.sure(0, 0), 0);
        Check.due("nobody: sure(0, 1)", nobody.sure(0, 1), 7);
        Check.write(nobody, 0, 0, 0, 0);
        Check.due("another row, another answer: sure(0, 1)", nobody.sure(0, 1), 0);
        Check.write(nobody, 0, 0, 0, 1);
        Check.due("another row, another answer: sure(0, 1)", nobody.sure(0, 1), 2);
        Edge.of(50, "NONE, -2, -6 likewise, no such what.");
        ConsentDoors none = told(FOUR, 0, 1, 1, 1, 1, 1);
        Check.due("none: sure(0, 0)", none.sure(0, 0), -1);
        Check.due("none: sure(0, 1)", none.sure(0, 1), -1);
        Check.within("sure(0, #)", 0, 1, what -> x.sure(0, what));
        Check.within("none: sure(0, #)", 0, 1, what -> none.sure(0, what));
        askRefusals(true, (y, slot) -> y.sure(slot, 0));
        askRefusals(true, (y, slot) -> y.sure(slot, 1));
    }

    private static void odd() {
        Edge.of(51, "The first of these three (from 0) that is not so, if nobody refuses; NONE: all are.");
        Check.due("the first", told(FOUR, 0, 1, 0).odd(0), 0);
        Check.due("the second", told(FOUR, 0, 1, 1, 1, 0, 1).odd(0), 1);
        Check.due("the first of two", told(FOUR, 0, 1, 1, 1, 0, 1, 2, 2, 1).odd(0), 1);
        Check.due("all are", told(FOUR, 0, 1, 1, 1, 0, 0).odd(0), -1);
        Check.due("all of none", told(FOUR).odd(0), -1);
        long[] last = twenty();
        for (int i = 0; i < 20; i++) {
            last[3 * i + 2] = i == 0 || i == 19 ? 1 : 0;
        }
        Check.due("the last of twenty", told(FOUR, last).odd(0), 19);
        Edge.of(51, "-2, -6 likewise.");
        askRefusals(true, (x, slot) -> x.odd(slot));
    }

    private static void forged() {
        Edge.of(52, "NODS: a SLOT's row, three numbers each: an HOUR, a CELL, a SIDE for whom its man is told to have nodded: how many are forged (he would not have turned then,"
                + " by the PLAN: out ahead of that HOUR, or for a REASON).");
        String day = FOUR + "plan 2 0; sleeps 3 from 23 to 23; cell friendly temper 0 left 0 right 0;"
                + "cell pious temper 0 left 0 right 0; cell friendly temper 0 left 0 right 0 loyal;";
        Check.due("not out ahead of it", told(day, 2, 0, 1).forged(0), 0);
        Check.due("out ahead of it", told(day, 3, 0, 1).forged(0), 1);
        Check.due("out ahead of the last", told(day, 23, 0, 1).forged(0), 1);
        Check.due("in HOUR 0", told(day, 0, 0, 1).forged(0), 0);
        Check.due("a wall", told(day, 0, 0, 0).forged(0), 1);
        Check.due("a wall on the right", told(day, 0, 3, 1).forged(0), 1);
        Check.due("pious, left, even", told(day, 0, 1, 0).forged(0), 0);
        Check.due("pious, right, even", told(day, 0, 1, 1).forged(0), 1);
        Check.due("awake", told(day, 22, 3, 0).forged(0), 0);
        Check.due("asleep", told(day, 23, 3, 0).forged(0), 1);
        Check.due("twice", told(day, 23, 3, 0, 23, 3, 0).forged(0), 2);
        Check.due("of none", told(day).forged(0), 0);
        long[] all = new long[60];
        Check.due("all of twenty", told(day, all).forged(0), 20);
        ConsentDoors later = told(day, 3, 0, 1);
        later.plan(2, -1);
        Check.due("by the PLAN as it is now", later.forged(0), 0);
        Edge.of(52, "-2: there is no such SLOT, no PRISON, a number is not so (asked last), not three each; -6: it has nothing.");
        askRefusals(false, (x, slot) -> x.forged(slot));
    }

    private static void forger() {
        Edge.of(53, "The CELL in whose name most are, the first of several; NONE: none is.");
        Check.due("of none", told(FOUR).forger(0), -1);
        Check.due("none is", told(FOUR, 0, 0, 1, 0, 3, 0).forger(0), -1);
        Check.due("the first of several", told(FOUR, 0, 3, 1, 0, 0, 0).forger(0), 0);
        Check.due("most", told(FOUR, 0, 0, 0, 0, 3, 1, 5, 3, 1).forger(0), 3);
        Check.due("most that are, not most nods", told(FOUR, 0, 0, 1, 1, 0, 1, 5, 3, 1).forger(0), 3);
        Edge.of(53, "-2, -6 likewise.");
        askRefusals(false, (x, slot) -> x.forger(slot));
    }
}
