/** Boundary cases of promises 23 to 32: what any PLAN can do. */
final class EdgeAnyPlan {
    // Doors 0 and 2 could open in HOUR 1 and 2, door 1 in 0 and 3, none in 4.
    private static final String FIVE = "prison cells 3 hours 5 row; sleeps 1 from 0 to 0; sleeps 1 from 3 to 4;"
            + "sleeps 2 from 1 to 2; sleeps 0 from 4 to 4;";

    private EdgeAnyPlan() {
    }

    static void ask() {
        mosts();
        bests();
        soonests();
        sets();
        togethers();
        lockedOnes();
        othersToo();
        latestAndEarliest();
        astrays();
    }

    private static void mosts() {
        Edge.of(23, "MOST (III): how many can be out behind an HOUR.");
        ConsentDoors x = Check.told(FIVE);
        // Door 1 wants 0 and 2 in, doors 0 and 2 want 1 in: so 1 alone, or 0 and 2.
        int[] most = {1, 1, 2, 2, 2};
        for (int hour = 0; hour < 5; hour++) {
            Check.due("most(" + hour + ")", x.most(hour), most[hour]);
        }
        Check.due("nobody", Check.told("prison cells 2 hours 1 row; quarrel 0;").most(0), 0);
        ConsentDoors all = Check.told("prison cells 9 hours 9 row;" + Edge.LOYAL.repeat(9));
        for (int hour = 0; hour < 9; hour++) {
            Check.due("one an HOUR: most(" + hour + ")", all.most(hour), hour + 1);
        }
        Check.due("no PLAN at all is needed", Check.told(Edge.ROW + "plan 0 1;").most(3), 2);
        Edge.of(23, "-2: there is no such HOUR.");
        Check.within("most(#)", 0, 4, x::most);
        Check.withoutPrison("most(0)", -2, none -> none.most(0));
    }

    private static void bests() {
        Edge.of(24, "Which door is tried in an HOUR by the first PLAN with as many as can be behind the last HOUR; NONE: none.");
        ConsentDoors x = Check.told(FIVE);
        int[] best = {-1, 0, 2, -1, -1};
        for (int hour = 0; hour < 5; hour++) {
            Check.due("best(" + hour + ")", x.best(hour), best[hour]);
        }
        ConsentDoors none = Check.told("prison cells 2 hours 24 row; quarrel 0; plan 0 0;");
        Check.due("nobody can: best(0)", none.best(0), -1);
        Check.due("nobody can: best(23)", none.best(23), -1);
        ConsentDoors late = Check.told("prison cells 2 hours 24 row; plan 0 1;");
        Check.due("none ahead of CELLS: best(22)", late.best(22), -1);
        Check.due("CELL 0 ahead of 1: best(23)", late.best(23), 0);
        ConsentDoors all = Check.told("prison cells 9 hours 9 ring;" + Edge.LOYAL.repeat(9));
        for (int hour = 0; hour < 9; hour++) {
            Check.due("all: best(" + hour + ")", all.best(hour), hour);
        }
        Edge.of(24, "-2 likewise.");
        Check.within("best(#)", 0, 4, x::best);
        Check.withoutPrison("best(0)", -2, n -> n.best(0));
    }

    private static void soonests() {
        Edge.of(25, "The first HOUR behind which n (1 .. 9) can be out; NONE: none.");
        ConsentDoors x = Check.told(FIVE);
        int[] soonest = {0, 2, -1, -1, -1, -1, -1, -1, -1};
        for (int n = 1; n <= 9; n++) {
            Check.due("soonest(" + n + ")", x.soonest(n), soonest[n - 1]);
        }
        ConsentDoors all = Check.told("prison cells 9 hours 9 ring;" + Edge.LOYAL.repeat(9));
        for (int n = 1; n <= 9; n++) {
            Check.due("all: soonest(" + n + ")", all.soonest(n), n - 1);
        }
        Check.due("an HOUR short: soonest(9)", Check.told("prison cells 9 hours 8 ring;" + Edge.LOYAL.repeat(9)).soonest(9), -1);
        Check.due("nobody: soonest(1)", Check.told("prison cells 2 hours 24 row; quarrel 0;").soonest(1), -1);
        Check.due("in the last", Check.told("prison cells 2 hours 24 row; sleeps 0 from 0 to 23; sleeps 1 from 0 to 22;").soonest(1), 23);
        Edge.of(25, "-2: there is no such n, no PRISON.");
        Check.within("soonest(#)", 1, 9, x::soonest);
        for (int n = 0; n <= 10; n++) {
            int asked = n;
            Check.withoutPrison("soonest(" + n + ")", -2, none -> none.soonest(asked));
        }
    }

    private static void sets() {
        Edge.of(26, "How many sets of CELLS can be just those that are out behind an HOUR.");
        ConsentDoors x = Check.told(FIVE);
        // Behind 0: {}, {1}; behind 1: {0}, {2} too; behind 2: {0, 2} too.
        int[] sets = {2, 4, 5, 5, 5};
        for (int hour = 0; hour < 5; hour++) {
            Check.due("sets(" + hour + ")", x.sets(hour), sets[hour]);
        }
        Check.due("nobody is a set too", Check.told("prison cells 2 hours 1 row; quarrel 0;").sets(0), 1);
        Check.due("all of nine", Check.told("prison cells 9 hours 9 ring;" + Edge.LOYAL.repeat(9)).sets(8), 512);
        // Of a ring of nine and of a row of nine the sets without two neighbours.
        Check.due("no two neighbours, ring", Check.told("prison cells 9 hours 9 ring;").sets(8), 76);
        Check.due("no two neighbours, row", Check.told("prison cells 9 hours 9 row;").sets(8), 89);
        Check.due("all but all of nine", Check.told("prison cells 9 hours 8 ring;" + Edge.LOYAL.repeat(9)).sets(7), 511);
        Edge.of(26, "-2: there is no such HOUR.");
        Check.within("sets(#)", 0, 4, x::sets);
        Check.withoutPrison("sets(0)", -2, none -> none.sets(0));
    }

    private static void togethers() {
        Edge.of(27, "The first HOUR behind which all of a set of CELLS (bits) can be out (others too); NONE: none.");
        ConsentDoors x = Check.told(FIVE);
        int[] together = {0, 1, 0, -1, 1, 2, -1, -1};
        for (int set = 0; set < 8; set++) {
            Check.due("together(" + set + ")", x.together(set), together[set]);
        }
        ConsentDoors all = Check.told("prison cells 9 hours 9 ring;" + Edge.LOYAL.repeat(9));
        for (int set = 0; set < 512; set += 7) {
            Check.due("all: together(" + set + ")", all.together(set), set == 0 ? 0 : Integer.bitCount(set) - 1);
        }
        Check.due("the ninth alone", all.together(256), 0);
        Check.due("all nine", all.together(511), 8);
        Edge.of(27, "-2: there are none such.");
        Check.within("together(#)", 0, 7, x::together);
        Check.within("of nine: together(#)", 0, 511, all::together);
        Check.within("of two: together(#)", 0, 3, Check.told("prison cells 2 hours 1 row;")::together);
        Check.withoutPrison("together(0)", -2, none -> none.together(0));
    }

    private static void lockedOnes() {
        Edge.of(28, "CELLS that can be out behind the last HOUR by no PLAN, as bits.");
        Check.due("none", Check.told(FIVE).locked(), 0);
        Check.due("all", Check.told("prison cells 2 hours 24 row; quarrel 0;").locked(), 3);
        Check.due("some", Check.told("prison cells 9 hours 1 ring; quarrel 8;").locked(), 257);
        Check.due("in the last HOUR", Check.told("prison cells 3 hours 2 row; sleeps 1 from 0 to 0; sleeps 0 from 0 to 1;").locked(), 2);
        Edge.of(28, "-2: there is no PRISON.");
        Check.withoutPrison("locked()", -2, none -> none.locked());
    }

    private static void othersToo() {
        Edge.of(29, "The most others that can be out, if a CELL's man is to be, behind the last HOUR; NONE: he can't.");
        ConsentDoors x = Check.told(FIVE);
        int[] others = {1, 0, 1};
        for (int cell = 0; cell < 3; cell++) {
            Check.due("others(" + cell + ")", x.others(cell), others[cell]);
        }
        Check.due("he can't", Check.told("prison cells 2 hours 24 row; quarrel 0;").others(1), -1);
        ConsentDoors all = Check.told("prison cells 9 hours 9 ring;" + Edge.LOYAL.repeat(9));
        Check.due("all others", all.others(8), 8);
        Edge.of(29, "-2: there is none such.");
        Check.within("others(#)", 0, 2, x::others);
        Check.within("of nine: others(#)", 0, 8, all::others);
        Check.withoutPrison("others(0)", -2, none -> none.others(0));
    }

    private static void latestAndEarliest() {
        ConsentDoors x = Check.told(FIVE);
        ConsentDoors shut = Check.told("prison cells 2 hours 24 row; quarrel 0;");
        ConsentDoors all = Check.told("prison cells 2 hours 24 row; plan 0 0;");
        Edge.of(30, "The last HOUR in which a CELL's door can open by any PLAN; NONE: in none.");
        int[] latest = {2, 3, 2};
        for (int cell = 0; cell < 3; cell++) {
            Check.due("latest(" + cell + ")", x.latest(cell), latest[cell]);
        }
        Check.due("in none: latest(0)", shut.latest(0), -1);
        Check.due("the very last: latest(1)", all.latest(1), 23);
        ConsentDoors first = Check.told("prison cells 2 hours 24 row; sleeps 1 from 1 to 23;");
        Check.due("the very first: latest(0)", first.latest(0), 0);
        Edge.of(30, "-2: there is none such.");
        Check.within("latest(#)", 0, 2, x::latest);
        Check.withoutPrison("latest(0)", -2, none -> none.latest(0));
        Edge.of(31, "The first one so.");
        int[] earliest = {1, 0, 1};
        for (int cell = 0; cell < 3; cell++) {
            Check.due("earliest(" + cell + ")", x.earliest(cell), earliest[cell]);
        }
        Check.due("the very first: earliest(1)", all.earliest(1), 0);
        ConsentDoors last = Check.told("prison cells 2 hours 24 row; sleeps 1 from 0 to 22;");
        Check.due("the very last: earliest(0)", last.earliest(0), 23);
        Edge.of(31, "NONE, -2 likewise.");
        Check.due("in none: earliest(0)", shut.earliest(0), -1);
        Check.within("earliest(#)", 0, 2, x::earliest);
        Check.withoutPrison("earliest(0)", -2, none -> none.earliest(0));
    }

    private static void astrays() {
        Edge.of(32, "ASTRAY: the first HOUR behind which, by the PLAN, who is out can come to MOST (behind the last HOUR) no more;"
                + " NONE: there is none.");
        Check.due("two HOURS for two, and none comes out in the first of them: astray()", Check.told(FIVE + "plan 0 0;").astray(), 1);
        Check.due("in HOUR 0: astray()", Check.told(FIVE + "plan 0 1;").astray(), 0);
        Check.due("one of two: astray()", Check.told(FIVE + "plan 1 0;").astray(), 2);
        Check.due("two of two: astray()", Check.told(FIVE + "plan 1 0; plan 2 2;").astray(), -1);
        Check.due("two of two, the other way: astray()", Check.told(FIVE + "plan 2 0; plan 1 2;").astray(), -1);
        for (int cell = 0; cell < 9; cell++) {
            // Of a row of nine 0, 2, 4, 6, 8 alone make five.
            String plan = "plan 0 " + cell + "; plan 1 " + (cell < 2 ? 2 : 0) + "; plan 2 4; plan 3 6; plan 4 8; plan 5 2;";
            int due = cell % 2 == 1 ? 0 : -1;
            Check.due("row of nine, " + cell + " first: astray()", Check.told("prison cells 9 hours 9 row;" + plan).astray(), due);
        }
        Check.due("one of nine: astray()", Check.told("prison cells 9 hours 1 ring;").astray(), 0);
        Check.due("nobody can: astray()", Check.told("prison cells 2 hours 24 row; quarrel 0;").astray(), -1);
        Check.due("the last HOUR: astray()", Check.told("prison cells 2 hours 24 row;").astray(), 23);
        Check.due("in the last HOUR: astray()", Check.told("prison cells 2 hours 24 row; plan 23 1;").astray(), -1);
        Edge.of(32, "-2: there is no PRISON.");
        Check.withoutPrison("astray()", -2, none -> none.astray());
    }
}
