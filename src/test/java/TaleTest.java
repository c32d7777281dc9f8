/** Promises 48 to 53: what a SLOT's row tells. */
public final class TaleTest {
    public static void main(String[] args) {
        refusals();
        unsoundTales();
        nods();
        unsoundNods();
        Check.finish();
    }

    private static void refusals() {
        ConsentDoors x = Check.told("prison cells 4 hours 6 row;");
        Check.write(x, 0, 0, 1, 0);
        // Door 1 stays shut: 0 refuses, or 2 does, or both; the others as they like.
        Check.due("refused(0)", x.refused(0), 12);
        Check.due("fewest(0)", x.fewest(0), 1);
        Check.due("sure(0, 0)", x.sure(0, 0), 0);
        Check.due("sure(0, 1)", x.sure(0, 1), 0);
        Check.due("odd(0)", x.odd(0), 0);
        Check.write(x, 0, 0, 1, 0, 2, 3, 1);
        // Door 3 opens: 2 does not refuse, so 0 does.
        Check.due("two: refused(0)", x.refused(0), 4);
        Check.due("two: fewest(0)", x.fewest(0), 1);
        Check.due("two: sure(0, 0)", x.sure(0, 0), 1);
        Check.due("two: sure(0, 1)", x.sure(0, 1), 4);
        Check.write(x, 0, 0, 1, 0, 2, 3, 1, 5, 1, 1);
        Check.due("against itself: refused(0)", x.refused(0), 0);
        Check.due("against itself: fewest(0)", x.fewest(0), -1);
        Check.due("against itself: sure(0, 0)", x.sure(0, 0), -1);
        Check.due("against itself: sure(0, 1)", x.sure(0, 1), -1);
        Check.due("against itself: odd(0)", x.odd(0), 0);
        Check.write(x, 0, 0, 1, 1, 1, 0, 0, 2, 1, 0, 4, 3, 0);
        // Who is out does not turn: door 0 stays shut anyway, and who is out does not come out.
        Check.due("as it is: odd(0)", x.odd(0), 3);
        Check.due("as it is: refused(0)", x.refused(0), 0);
        Check.write(x, 0, 0, 1, 1, 1, 0, 0, 2, 1, 0);
        Check.due("all are: odd(0)", x.odd(0), -1);
        Check.due("all are: refused(0)", x.refused(0), 4);
        Check.due("all are: fewest(0)", x.fewest(0), 0);
        Check.due("all are: sure(0, 1)", x.sure(0, 1), 5);
        x.row(2, 0, 0);
        Check.due("no tale: refused(2)", x.refused(2), 16);
        Check.due("no tale: fewest(2)", x.fewest(2), 0);
        Check.due("no tale: sure(2, 0)", x.sure(2, 0), 0);
        Check.due("no tale: sure(2, 1)", x.sure(2, 1), 0);
        Check.due("no tale: odd(2)", x.odd(2), -1);
        ConsentDoors y = Check.told("prison cells 4 hours 6 ring;");
        Check.write(y, 0, 0, 0, 0, 1, 2, 0, 2, 1, 1);
        // By number of men, then bits: 1 or 3 must refuse; 0 and 2 don't.
        Check.due("ring: refused(0)", y.refused(0), 3);
        Check.due("ring: fewest(0)", y.fewest(0), 2);
        Check.due("ring: sure(0, 0)", y.sure(0, 0), 0);
        Check.due("ring: sure(0, 1)", y.sure(0, 1), 5);
        y.plan(0, 0);
        Check.due("the PLAN is aside: refused(0)", y.refused(0), 3);
        Check.write(y, 0, 0, 1, 0, 1, 3, 0, 2, 0, 0, 3, 2, 0);
        Check.due("by number, then bits: fewest(0)", y.fewest(0), 3);
        Check.write(y, 0, 0, 0, 0, 1, 2, 0, 2, 1, 1, 3, 3, 1);
        Check.due("two out: refused(0)", y.refused(0), 3);
    }

    private static void unsoundTales() {
        ConsentDoors x = Check.told("prison cells 4 hours 6 row;");
        Check.due("nothing: refused(1)", x.refused(1), -6);
        Check.due("nothing: fewest(1)", x.fewest(1), -6);
        Check.due("nothing: sure(1, 0)", x.sure(1, 0), -6);
        Check.due("nothing: odd(1)", x.odd(1), -6);
        Check.due("nothing: sure(1, 2)", x.sure(1, 2), -2);
        Check.due("refused(4)", x.refused(4), -2);
        Check.due("fewest(-1)", x.fewest(-1), -2);
        Check.due("sure(4, 0)", x.sure(4, 0), -2);
        Check.due("odd(-1)", x.odd(-1), -2);
        long[][] unsound = {{6, 0, 0}, {-1, 0, 0}, {0, 4, 0}, {0, -1, 0}, {0, 0, 2}, {0, 0, -1}, {0, 0}, {0, 0, 0, 1},
            {1, 0, 0, 1, 1, 0}, {1, 0, 0, 0, 1, 0}, {1L << 32, 0, 0}, {0, 1L << 32, 0}, {0, 0, (1L << 32) + 1}};
        for (long[] row : unsound) {
            Check.write(x, 0, row);
            Check.due("unsound: refused(0)", x.refused(0), -2);
            Check.due("unsound: fewest(0)", x.fewest(0), -2);
            Check.due("unsound: sure(0, 1)", x.sure(0, 1), -2);
            Check.due("unsound: odd(0)", x.odd(0), -2);
        }
        Check.write(x, 0, 0, 0, 0);
        Check.due("sure(0, 2)", x.sure(0, 2), -2);
        Check.due("sure(0, -1)", x.sure(0, -1), -2);
        ConsentDoors none = new ConsentDoors();
        Check.due("no PRISON: refused(0)", none.refused(0), -2);
        Check.due("no PRISON: forged(0)", none.forged(0), -2);
        x.row(3, 0, 3);
        x.write(3, 0, 256 + 5);
        x.write(3, 2, 255);
        Check.due("cut, not 0 or 1: odd(3)", x.odd(3), -2);
        x.write(3, 2, 257);
        Check.due("cut to 5, 0, 1: odd(3)", x.odd(3), -1);
    }

    private static void nods() {
        ConsentDoors x = Check.told(MenTest.THREE + "plan 0 0; plan 1 2;");
        // 0 is out behind HOUR 0, 2 behind HOUR 1 and loyal.
        Check.write(x, 0, 2, 0, 1, 0, 0, 1, 0, 0, 0, 0, 1, 0, 2, 2, 0, 1, 2, 0);
        Check.due("forged(0)", x.forged(0), 4);
        Check.due("forger(0)", x.forger(0), 0);
        Check.write(x, 0, 2, 2, 0, 0, 1, 0, 1, 1, 1, 1, 1, 1);
        Check.due("none: forged(0)", x.forged(0), 0);
        Check.due("none: forger(0)", x.forger(0), -1);
        Check.write(x, 0, 3, 2, 0, 1, 1, 0);
        Check.due("the first of several: forged(0)", x.forged(0), 2);
        Check.due("the first of several: forger(0)", x.forger(0), 1);
        ConsentDoors y = Check.told("prison cells 3 hours 3 row; plan 1 0;");
        Check.write(y, 1, 1, 0, 1, 2, 0, 1, 0, 0, 1, 2, 0, 1);
        Check.due("out ahead of that HOUR: forged(1)", y.forged(1), 2);
        y.row(2, 2, 0);
        Check.due("no nods: forged(2)", y.forged(2), 0);
        Check.due("no nods: forger(2)", y.forger(2), -1);
    }

    private static void unsoundNods() {
        ConsentDoors x = Check.told("prison cells 4 hours 6 row;");
        Check.due("nothing: forged(1)", x.forged(1), -6);
        Check.due("nothing: forger(1)", x.forger(1), -6);
        Check.due("forged(4)", x.forged(4), -2);
        Check.due("forger(-1)", x.forger(-1), -2);
        long[][] unsound = {{6, 0, 0}, {0, 4, 0}, {0, 0, 2}, {0, 0, 0, 0}};
        for (long[] row : unsound) {
            Check.write(x, 0, row);
            Check.due("unsound: forged(0)", x.forged(0), -2);
            Check.due("unsound: forger(0)", x.forger(0), -2);
        }
        Check.write(x, 0, 5, 0, 1, 0, 0, 1);
        Check.due("HOURS need not rise: forged(0)", x.forged(0), 0);
    }
}
