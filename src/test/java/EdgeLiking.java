/** Boundary cases of promises 33 to 36: points of liking. */
final class EdgeLiking {
    // Door 0 lacks 3 of 1; door 1 lacks 2 of 0 and 9 of 2, in HOUR 1 2 of 0 and 4 of 2; door 2 lacks 1 of 1, who sleeps in 1.
    private static final String COLD = "prison cells 3 hours 3 row; cell friendly temper 4 left 0 right 2 loyal;"
            + "cell friendly temper 3 left 0 right 2 loyal; cell friendly temper 9 left 0 right 0;"
            + "soup 1 gives right 5 in 1; sleeps 1 from 1 to 1; sleeps 0 from 2 to 2;";

    private EdgeLiking() {
    }

    static void ask() {
        flattered();
        whens();
        corridors();
        friendly();
    }

    private static void flattered() {
        Edge.of(33, "FLATTER: the fewest points of liking more by which the door of a CELL could open in an HOUR, nobody being out;"
                + " NONE: by none.");
        ConsentDoors x = Check.told(COLD + "plan 0 0;");
        int[][] due = {{3, -1, 3}, {11, 6, -1}, {1, -1, 1}};
        for (int cell = 0; cell < 3; cell++) {
            for (int hour = 0; hour < 3; hour++) {
                Check.due("flatter(" + cell + ", " + hour + ")", x.flatter(cell, hour), due[cell][hour]);
            }
        }
        Check.due("none are wanted", Check.told(Edge.ROW).flatter(1, 3), 0);
        Check.due("he himself is out by the PLAN", Check.told(Edge.ROW + "plan 0 1;").flatter(1, 3), 0);
        Check.due("the most of two", Check.told(Edge.RING + "cell deaf temper 0 left 0 right 0;"
                + "cell friendly temper 9 left 0 right 0; cell friendly temper 9 left 0 right 0;").flatter(0, 0), 18);
        String cold = "cell friendly temper 9 left 0 right 0;";
        Check.due("asleep: by none", Check.told(Edge.ROW + cold + "sleeps 0 from 0 to 0;").flatter(1, 0), -1);
        Check.due("deaf: by none", Check.told(Edge.ROW + "cell deaf temper 9 left 0 right 0;").flatter(1, 0), -1);
        Check.due("quarrel: by none", Check.told(Edge.ROW + cold + "quarrel 0;").flatter(1, 0), -1);
        Check.due("pious: by none", Check.told(Edge.ROW + "cell pious temper 9 left 0 right 0;").flatter(1, 0), -1);
        Check.due("pious, his HOUR", Check.told(Edge.ROW + "cell pious temper 9 left 0 right 0;").flatter(1, 1), 9);
        Check.due("moody: by none", Check.told(Edge.ROW + "cell moody 2 temper 9 left 0 right 1;").flatter(1, 1), -1);
        Check.due("moody, his HOUR", Check.told(Edge.ROW + "cell moody 2 temper 9 left 0 right 1;").flatter(1, 2), 8);
        Edge.of(33, "-2: there are none such.");
        Check.within("flatter(#, 0)", 0, 2, cell -> x.flatter(cell, 0));
        Check.within("flatter(0, #)", 0, 2, hour -> x.flatter(0, hour));
        Check.withoutPrison("flatter(0, 0)", -2, none -> none.flatter(0, 0));
    }

    private static void whens() {
        Edge.of(34, "The HOUR in which that is fewest, the first of several; NONE: in none.");
        ConsentDoors x = Check.told(COLD);
        Check.due("the first of several: when(0)", x.when(0), 0);
        Check.due("when(1)", x.when(1), 1);
        Check.due("the first of several: when(2)", x.when(2), 0);
        Check.due("none are wanted, the first", Check.told(Edge.ROW + "sleeps 1 from 0 to 0;").when(0), 1);
        Check.due("the last", Check.told("prison cells 2 hours 24 row; sleeps 1 from 0 to 22;").when(0), 23);
        Check.due("fewer by soup in the last", Check.told("prison cells 2 hours 24 row; cell friendly temper 9 left 0 right 7;"
                + "soup 1 gives left 1 in 23;").when(1), 23);
        Check.due("in none", Check.told("prison cells 2 hours 24 row; quarrel 0;").when(0), -1);
        Check.due("in none, by sleep", Check.told("prison cells 2 hours 24 row; sleeps 1 from 0 to 23;").when(0), -1);
        Edge.of(34, "-2: there is none such.");
        Check.within("when(#)", 0, 2, x::when);
        Check.withoutPrison("when(0)", -2, none -> none.when(0));
    }

    private static void corridors() {
        Edge.of(35, "CORRIDOR: CELLS from one on to the right up to another one (round, in a ring; of a row the first is no greater)");
        String man = "cell friendly temper 9 left 8 right 7 loyal;";
        ConsentDoors ring = Check.told("prison cells 4 hours 4 ring;" + man.repeat(4));
        ConsentDoors row = Check.told("prison cells 4 hours 4 row;" + man.repeat(4));
        // Each door lacks 2 of the one on its left and 1 of the one on its right; at a wall none.
        for (int from = 0; from < 4; from++) {
            for (int to = 0; to < 4; to++) {
                int cells = to >= from ? to - from + 1 : to + 4 - from + 1;
                Check.due("ring: corridor(" + from + ", " + to + ")", ring.corridor(from, to), 3 * cells);
                int due = 3 * cells - (from == 0 ? 2 : 0) - (to == 3 ? 1 : 0);
                Check.due("row: corridor(" + from + ", " + to + ")", row.corridor(from, to), from > to ? -2 : due);
            }
        }
        Edge.of(35, "the fewest points by which all can be out behind the last HOUR (others too), each for one man to one SIDE;"
                + " NONE: by none.");
        ConsentDoors x = Check.told(COLD);
        // Door 1 opens in HOUR 0 or 1 alone, doors 0 and 2 in 0 or 2, and a loyal man turns when he is out, too.
        int[][] due = {{3, 9, 10}, {-2, 6, 7}, {-2, -2, 1}};
        for (int from = 0; from < 3; from++) {
            for (int to = 0; to < 3; to++) {
                Check.due("corridor(" + from + ", " + to + ")", x.corridor(from, to), due[from][to]);
            }
        }
        x.plan(0, 1);
        Check.due("the PLAN is aside: corridor(0, 1)", x.corridor(0, 1), 9);
        Check.due("none are wanted", Check.told(Edge.ROW).corridor(0, 0), 0);
        Check.due("a door never opens", Check.told(Edge.ROW + "quarrel 0;").corridor(1, 2), -1);
        Check.due("the last HOUR", Check.told("prison cells 2 hours 24 row; sleeps 1 from 0 to 22;").corridor(0, 0), 0);
        Check.due("too few HOURS", Check.told("prison cells 9 hours 8 ring;" + man.repeat(9)).corridor(1, 0), -1);
        Check.due("as many HOURS", Check.told("prison cells 9 hours 9 ring;" + man.repeat(9)).corridor(1, 0), 27);
        Check.due("neither is loyal", Check.told("prison cells 2 hours 24 row;").corridor(0, 1), -1);
        Edge.of(35, "-2: there are none such.");
        Check.within("ring: corridor(#, 0)", 0, 3, cell -> ring.corridor(cell, 0));
        Check.within("ring: corridor(0, #)", 0, 3, cell -> ring.corridor(0, cell));
        Check.within("row: corridor(#, 3)", 0, 3, cell -> row.corridor(cell, 3));
        Check.within("row: corridor(0, #)", 0, 3, cell -> row.corridor(0, cell));
        Check.withoutPrison("corridor(0, 0)", -2, none -> none.corridor(0, 0));
    }

    private static void friendly() {
        Edge.of(36, "The fewest men (each for one SIDE) who must be flattered for that.");
        String man = "cell friendly temper 9 left 8 right 7 loyal;";
        ConsentDoors ring = Check.told("prison cells 4 hours 4 ring;" + man.repeat(4));
        ConsentDoors row = Check.told("prison cells 4 hours 4 row;" + man.repeat(4));
        for (int from = 0; from < 4; from++) {
            for (int to = 0; to < 4; to++) {
                int cells = to >= from ? to - from + 1 : to + 4 - from + 1;
                Check.due("ring: friends(" + from + ", " + to + ")", ring.friends(from, to), 2 * cells);
                int due = 2 * cells - (from == 0 ? 1 : 0) - (to == 3 ? 1 : 0);
                Check.due("row: friends(" + from + ", " + to + ")", row.friends(from, to), from > to ? -2 : due);
            }
        }
        Check.due("none must be", Check.told(Edge.ROW).friends(0, 0), 0);
        ConsentDoors x = Check.told(COLD);
        Check.due("friends(0, 1)", x.friends(0, 1), 3);
        Check.due("friends(0, 2)", x.friends(0, 2), 4);
        Check.due("friends(1, 1)", x.friends(1, 1), 2);
        Check.due("friends(2, 2)", x.friends(2, 2), 1);
        Edge.of(36, "NONE, -2 likewise.");
        Check.due("a door never opens", Check.told(Edge.ROW + "quarrel 0;").friends(1, 2), -1);
        Check.due("neither is loyal", Check.told("prison cells 2 hours 24 row;").friends(0, 1), -1);
        Check.due("too few HOURS", Check.told("prison cells 9 hours 8 ring;" + man.repeat(9)).friends(1, 0), -1);
        Check.within("ring: friends(#, 0)", 0, 3, cell -> ring.friends(cell, 0));
        Check.within("ring: friends(0, #)", 0, 3, cell -> ring.friends(0, cell));
        Check.within("row: friends(#, 3)", 0, 3, cell -> row.friends(cell, 3));
        Check.within("row: friends(0, #)", 0, 3, cell -> row.friends(0, cell));
        Check.withoutPrison("friends(0, 0)", -2, none -> none.friends(0, 0));
    }
}
