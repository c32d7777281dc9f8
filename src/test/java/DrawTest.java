/** Promises 60 and 61: sleeps drawn. */
public final class DrawTest {
    private static final String LOYAL = "cell friendly temper 0 left 0 right 0 loyal;";
    private static final String TEXT = "prison cells 3 hours 4 row;" + LOYAL + LOYAL + LOYAL
            + "plan 0 0; plan 1 1; plan 2 2; sleeps 2 from 0 to 1;";

    public static void main(String[] args) {
        draws();
        edges();
        chances();
        wrongOnes();
        Check.finish();
    }

    // From seed 0: 12345, 1406932606, 654583775, 1449466924, ..: draws 0, 68, 88, 17, ..
    private static void draws() {
        ConsentDoors x = Check.told("prison cells 2 hours 1 row; plan 0 0;");
        Check.due("0 sleeps, 1 does not: drawn(0, 1, 0)", x.drawn(0, 1, 0), 1);
        Check.due("drawn(0, 68, 0)", x.drawn(0, 68, 0), 1);
        Check.due("1 sleeps too: drawn(0, 69, 0)", x.drawn(0, 69, 0), 0);
        Check.due("drawn(0, 1, 1)", x.drawn(0, 1, 1), 1);
        Check.due("drawn(0, 69, 1)", x.drawn(0, 69, 1), 0);
        Check.due("drawn(0, 0, 2)", x.drawn(0, 0, 2), 0);
        Check.due("drawn(0, 1, 2)", x.drawn(0, 1, 2), 1);
        Check.due("two of one HOUR: drawn(0, 69, 2)", x.drawn(0, 69, 2), 1);
        x.plan(0, 1);
        Check.due("0 sleeps: drawn(0, 1, 0)", x.drawn(0, 1, 0), 0);
        Check.due("drawn(0, 0, 0)", x.drawn(0, 0, 0), 2);
    }

    private static void edges() {
        ConsentDoors x = Check.told(TEXT);
        Check.due("odds 0: drawn(7, 0, 0)", x.drawn(7, 0, 0), 5);
        Check.due("odds 0: drawn(7, 0, 1)", x.drawn(7, 0, 1), 3);
        Check.due("odds 0: drawn(7, 0, 2)", x.drawn(7, 0, 2), 0);
        Check.due("odds 100: drawn(7, 100, 0)", x.drawn(7, 100, 0), 0);
        Check.due("odds 100: drawn(7, 100, 1)", x.drawn(7, 100, 1), 0);
        Check.due("odds 100: drawn(7, 100, 2)", x.drawn(7, 100, 2), 4);
        ConsentDoors told = Check.told("prison cells 2 hours 2 row; sleeps 0 from 0 to 1; sleeps 1 from 0 to 0;");
        Check.due("told already: drawn(7, 100, 2)", told.drawn(7, 100, 2), 1);
        Check.due("the last seed: drawn(2000000000, 0, 1)", x.drawn(2000000000, 0, 1), 3);
        for (int seed = 0; seed < 50; seed++) {
            for (int odds = 5; odds < 100; odds += 30) {
                int[] due = byHand(seed, odds);
                Check.due("drawn(" + seed + ", " + odds + ", 0)", x.drawn(seed, odds, 0), due[0]);
                Check.due("drawn(" + seed + ", " + odds + ", 2)", x.drawn(seed, odds, 2), due[1]);
            }
            x = Check.told(TEXT);
        }
    }

    private static int[] byHand(long seed, int odds) {
        boolean[][] sleeps = new boolean[4][3];
        int drowsy = 0;
        long state = seed;
        for (int hour = 0; hour < 4; hour++) {
            boolean some = false;
            for (int cell = 0; cell < 3; cell++) {
                state = state * 1103515245L + 12345L & 0x7fffffffL;
                boolean told = cell == 2 && hour < 2;
                boolean by = (state >> 16) % 100 < odds;
                sleeps[hour][cell] = told || by;
                some |= by && !told;
            }
            drowsy += some ? 1 : 0;
        }
        int out = sleeps[0][1] ? 0 : 1;
        out |= sleeps[1][0] || sleeps[1][2] ? 0 : 2;
        out |= sleeps[2][1] ? 0 : 4;
        return new int[] {out, drowsy};
    }

    private static void chances() {
        ConsentDoors x = Check.told(TEXT);
        for (int cell = 0; cell < 3; cell++) {
            int due = 0;
            for (int seed = 100; seed < 117; seed++) {
                due += byHand(seed, 40)[0] >> cell & 1;
            }
            Check.due("chance(100, 17, 40, " + cell + ")", x.chance(100, 17, 40, cell), due);
        }
        ConsentDoors day = Check.told("prison cells 2 hours 24 row; plan 23 1;");
        Check.due("in the end of 24 HOURS: drawn(3, 0, 0)", day.drawn(3, 0, 0), 2);
        Check.due("in the end of 24 HOURS: chance(3, 2, 0, 1)", day.chance(3, 2, 0, 1), 2);
        Check.due("chance(3, 20, 0, 0)", x.chance(3, 20, 0, 0), 20);
        Check.due("chance(3, 1, 0, 2)", x.chance(3, 1, 0, 2), 1);
        Check.due("chance(3, 20, 100, 0)", x.chance(3, 20, 100, 0), 0);
        Check.due("chance(2000000000, 20, 0, 0)", x.chance(2000000000, 20, 0, 0), 20);
    }

    private static void wrongOnes() {
        ConsentDoors x = Check.told(TEXT);
        Check.due("drawn(-1, 0, 0)", x.drawn(-1, 0, 0), -2);
        Check.due("drawn(2000000001, 0, 0)", x.drawn(2000000001, 0, 0), -2);
        Check.due("drawn(0, -1, 0)", x.drawn(0, -1, 0), -2);
        Check.due("drawn(0, 101, 0)", x.drawn(0, 101, 0), -2);
        Check.due("drawn(0, 0, 3)", x.drawn(0, 0, 3), -2);
        Check.due("drawn(0, 0, -1)", x.drawn(0, 0, -1), -2);
        Check.due("chance(-1, 1, 0, 0)", x.chance(-1, 1, 0, 0), -2);
        Check.due("chance(2000000001, 1, 0, 0)", x.chance(2000000001, 1, 0, 0), -2);
        Check.due("chance(0, 0, 0, 0)", x.chance(0, 0, 0, 0), -2);
        Check.due("chance(0, 21, 0, 0)", x.chance(0, 21, 0, 0), -2);
        Check.due("chance(0, 1, 101, 0)", x.chance(0, 1, 101, 0), -2);
        Check.due("chance(0, 1, 0, 3)", x.chance(0, 1, 0, 3), -2);
        Check.due("no PRISON", new ConsentDoors().drawn(0, 0, 0), -2);
    }
}
