/** Boundary cases of promises 60 and 61: sleeps drawn. */
final class EdgeDraw {
    private static final String TWO = "prison cells 2 hours 2 row; plan 0 0; plan 1 1;";

    private EdgeDraw() {
    }

    static void ask() {
        drawn();
        chances();
    }

    private static void drawn() {
        Edge.of(60, "DRAWN (IV) by a seed (0 .. 2,000,000,000) and odds (0 .. 100), what 0: who is out in the end by the PLAN, as bits,"
                + " 1: MOST behind the last HOUR, 2: in how many HOURS somebody sleeps by draw who would not.");
        ConsentDoors x = Check.told(TWO);
        for (int seed : new int[] {0, 1, 1999999999, 2000000000}) {
            Check.due("nobody sleeps: drawn(" + seed + ", 0, 0)", x.drawn(seed, 0, 0), 1);
            Check.due("nobody sleeps: drawn(" + seed + ", 0, 1)", x.drawn(seed, 0, 1), 1);
            Check.due("nobody sleeps: drawn(" + seed + ", 0, 2)", x.drawn(seed, 0, 2), 0);
            Check.due("all sleep: drawn(" + seed + ", 100, 0)", x.drawn(seed, 100, 0), 0);
            Check.due("all sleep: drawn(" + seed + ", 100, 1)", x.drawn(seed, 100, 1), 0);
            Check.due("all sleep: drawn(" + seed + ", 100, 2)", x.drawn(seed, 100, 2), 2);
        }
        // Of seed 0: 0, 68 in HOUR 0 and 88, 17 in HOUR 1.
        Check.due("0 in HOUR 0, 1 in HOUR 1: drawn(0, 18, 2)", x.drawn(0, 18, 2), 2);
        Check.due("both in HOUR 0: drawn(0, 69, 0)", x.drawn(0, 69, 0), 2);
        Check.due("1 in HOUR 1: drawn(0, 69, 1)", x.drawn(0, 69, 1), 1);
        Check.due("all sleep: drawn(0, 89, 1)", x.drawn(0, 89, 1), 0);
        ConsentDoors told = Check.told("prison cells 2 hours 2 row; sleeps 0 from 0 to 0; sleeps 1 from 0 to 0;");
        Check.due("who would anyway: drawn(0, 100, 2)", told.drawn(0, 100, 2), 1);
        Check.due("told sleeps stay: drawn(0, 0, 1)", told.drawn(0, 0, 1), 1);
        Check.due("told to all: drawn(0, 100, 2)", Check.told("prison cells 2 hours 2 row; sleeps 0 from 0 to 1; sleeps 1 from 0 to 1;")
                .drawn(0, 100, 2), 0);
        Check.due("nothing stays: asleep(0)", x.asleep(0), 0);
        Check.due("nothing stays: out(1)", x.out(1), 1);
        Check.due("24 HOURS, all sleep", Check.told("prison cells 9 hours 24 ring;").drawn(5, 100, 2), 24);
        Check.due("24 HOURS, the last", Check.told("prison cells 9 hours 24 ring; plan 23 8;").drawn(5, 0, 0), 256);
        Edge.of(60, "-2: there are none such, no PRISON.");
        Check.within("drawn(#, 0, 0)", 0, 2000000000, seed -> x.drawn(seed, 0, 0));
        Check.within("drawn(0, #, 0)", 0, 100, odds -> x.drawn(0, odds, 0));
        Check.within("drawn(0, 0, #)", 0, 2, what -> x.drawn(0, 0, what));
        for (int what = 0; what < 3; what++) {
            int asked = what;
            Check.withoutPrison("drawn(0, 0, " + what + ")", -2, none -> none.drawn(0, 0, asked));
        }
    }

    private static void chances() {
        Edge.of(61, "Of n (1 .. 20) such from seeds, the seed and 1, .., in how many a CELL's man is out in the end by the PLAN.");
        ConsentDoors x = Check.told(TWO);
        for (int n = 1; n <= 20; n++) {
            int[] due = new int[2];
            for (int seed = 1000; seed < 1000 + n; seed++) {
                int out = Check.told(TWO).drawn(seed, 40, 0);
                due[0] += out & 1;
                due[1] += out >> 1;
            }
            Check.due("chance(1000, " + n + ", 40, 0)", x.chance(1000, n, 40, 0), due[0]);
            Check.due("chance(1000, " + n + ", 40, 1)", x.chance(1000, n, 40, 1), due[1]);
            Check.due("nobody sleeps: chance(0, " + n + ", 0, 0)", x.chance(0, n, 0, 0), n);
            Check.due("all sleep: chance(0, " + n + ", 100, 0)", x.chance(0, n, 100, 0), 0);
        }
        Check.due("the last seed: chance(2000000000, 1, 0, 0)", x.chance(2000000000, 1, 0, 0), 1);
        Check.due("nothing stays: asleep(1)", x.asleep(1), 0);
        Edge.of(61, "-2: there are none such.");
        Check.within("chance(#, 1, 0, 0)", 0, 2000000000, seed -> x.chance(seed, 1, 0, 0));
        Check.within("chance(0, #, 0, 0)", 1, 20, n -> x.chance(0, n, 0, 0));
        Check.within("chance(0, 1, #, 0)", 0, 100, odds -> x.chance(0, 1, odds, 0));
        Check.within("chance(0, 1, 0, #)", 0, 1, cell -> x.chance(0, 1, 0, cell));
        Check.withoutPrison("chance(0, 1, 0, 0)", -2, none -> none.chance(0, 1, 0, 0));
    }
}
