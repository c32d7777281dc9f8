/** Boundary cases of promises 37 to 43: what would be otherwise, if something were otherwise. */
final class EdgeOtherwise {
    private static final String SHUT = "prison cells 2 hours 24 row; quarrel 0;";

    private EdgeOtherwise() {
    }

    static void ask() {
        mended();
        harms();
        courted();
        loyalties();
        soups();
        gifts();
        others();
    }

    private static void mended() {
        Edge.of(37, "The fewest QUARRELS to be mended so that n (0 .. 9) can be out behind the last HOUR: how many (what 0),"
                + " which (what 1: CELLS that quarrel with the right one, as bits, the least set of these).");
        // A row of five, all quarrel: doors 0 and 4 want one mended, the others two.
        ConsentDoors x = Check.told("prison cells 5 hours 5 row; quarrel 0; quarrel 1; quarrel 2; quarrel 3;");
        int[] howMany = {0, 1, 2, 4};
        int[] which = {0, 1, 9, 15};
        for (int n = 0; n < 4; n++) {
            Check.due("mends(" + n + ", 0)", x.mends(n, 0), howMany[n]);
            Check.due("mends(" + n + ", 1)", x.mends(n, 1), which[n]);
        }
        ConsentDoors ring = Check.told("prison cells 3 hours 3 ring; quarrel 1; quarrel 2; quarrel 0;");
        Check.due("round, two of three: mends(1, 0)", ring.mends(1, 0), 2);
        Check.due("round, the least of several: mends(1, 1)", ring.mends(1, 1), 3);
        ConsentDoors last = Check.told("prison cells 9 hours 24 ring; quarrel 8; quarrel 7;" + Edge.LOYAL.repeat(9));
        Check.due("the last with the first: mends(9, 0)", last.mends(9, 0), 2);
        Check.due("the last with the first: mends(9, 1)", last.mends(9, 1), 384);
        Check.due("some can be out already: mends(6, 0)", last.mends(6, 0), 0);
        Check.due("some can be out already: mends(6, 1)", last.mends(6, 1), 0);
        Check.due("one is enough, the less of two: mends(7, 1)", last.mends(7, 1), 128);
        Check.due("no quarrel is told: mends(1, 1)", Check.told(Edge.ROW).mends(1, 1), 0);
        Edge.of(37, "NONE: by none;");
        Check.due("mends(4, 0)", x.mends(4, 0), -1);
        Check.due("mends(4, 1)", x.mends(4, 1), -1);
        Check.due("more than CELLS: mends(9, 1)", x.mends(9, 1), -1);
        Check.due("no quarrel is told: mends(3, 0)", Check.told(Edge.ROW).mends(3, 0), -1);
        Check.due("0 always can: mends(0, 0)", Check.told(SHUT).mends(0, 0), 0);
        Edge.of(37, "-2: there are none such, no PRISON.");
        Check.within("mends(#, 0)", 0, 9, n -> x.mends(n, 0));
        Check.within("mends(0, #)", 0, 1, what -> x.mends(0, what));
        Check.withoutPrison("mends(0, 0)", -2, none -> none.mends(0, 0));
        Check.withoutPrison("mends(0, 1)", -2, none -> none.mends(0, 1));
    }

    private static void harms() {
        Edge.of(38, "HARM: by how many fewer MOST is behind the last HOUR, if a CELL's man is deaf.");
        ConsentDoors x = Check.told(Edge.ROW);
        int[] harm = {0, 1, 0};
        for (int cell = 0; cell < 3; cell++) {
            Check.due("harm(" + cell + ")", x.harm(cell), harm[cell]);
        }
        Check.due("deaf already", Check.told(Edge.ROW + Edge.PLAIN + Edge.DEAF).harm(1), 0);
        Check.due("none to lose", Check.told(SHUT).harm(0), 0);
        ConsentDoors all = Check.told("prison cells 3 hours 3 ring;" + Edge.LOYAL.repeat(3));
        Check.due("round: harm(0)", all.harm(0), 2);
        Check.due("round: harm(2)", all.harm(2), 2);
        Check.due("nothing stays: most(2)", all.most(2), 3);
        Edge.of(38, "-2: there is none such.");
        Check.within("harm(#)", 0, 2, x::harm);
        Check.withoutPrison("harm(0)", -2, none -> none.harm(0));
    }

    private static void courted() {
        Edge.of(39, "COURTED: the CELL of which that is most, the first of several.");
        Check.due("one", Check.told(Edge.ROW).courted(), 1);
        Check.due("all alike", Check.told("prison cells 3 hours 3 ring;" + Edge.LOYAL.repeat(3)).courted(), 0);
        Check.due("none harms", Check.told(SHUT).courted(), 0);
        Check.due("the last", Check.told("prison cells 2 hours 1 row;" + Edge.DEAF).courted(), 1);
        // 0 is deaf: door 1 stays shut. 1 is wanted by doors 0 and 2, 3 by 2 and 4; 2 and 4 by door 3 alone.
        Check.due("the first of several but 0", Check.told("prison cells 5 hours 5 row;" + Edge.DEAF + Edge.LOYAL.repeat(4)).courted(), 1);
        Edge.of(39, "-2: there is no PRISON.");
        Check.withoutPrison("courted()", -2, none -> none.courted());
    }

    private static void loyalties() {
        Edge.of(40, "By how many more it is, if he is loyal.");
        ConsentDoors x = Check.told(Edge.ROW);
        int[] more = {0, 1, 0};
        for (int cell = 0; cell < 3; cell++) {
            Check.due("loyalty(" + cell + ")", x.loyalty(cell), more[cell]);
        }
        Check.due("loyal already", Check.told(Edge.ROW + Edge.PLAIN + Edge.LOYAL).loyalty(1), 0);
        Check.due("too few HOURS", Check.told("prison cells 3 hours 2 row;").loyalty(1), 0);
        Check.due("none can", Check.told(SHUT).loyalty(0), 0);
        Check.due("nothing stays: cell(1, 5)", x.cell(1, 5), 0);
        Edge.of(40, "-2: there is none such.");
        Check.within("loyalty(#)", 0, 2, x::loyalty);
        Check.withoutPrison("loyalty(0)", -2, none -> none.loyalty(0));
    }

    private static void soups() {
        Edge.of(41, "SOUP: by how many more it is, if he likes the one on a SIDE n (1 .. 9) more from an HOUR on.");
        // 1 lacks 4 for 0; 0 lacks 9 for 1; 2 is deaf.
        String cold = "prison cells 3 hours 4 row; cell friendly temper 9 left 0 right 0; cell friendly temper 5 left 1 right 0;"
                + Edge.DEAF;
        ConsentDoors x = Check.told(cold);
        for (int n = 1; n <= 9; n++) {
            Check.due("soup(1, 0, " + n + ", 0)", x.soup(1, 0, n, 0), n >= 4 ? 1 : 0);
            Check.due("soup(1, 1, " + n + ", 0)", x.soup(1, 1, n, 0), n >= 5 ? 1 : 0);
            Check.due("the deaf one: soup(0, 1, " + n + ", 0)", x.soup(0, 1, n, 0), 0);
        }
        ConsentDoors late = Check.told(cold + "sleeps 1 from 2 to 3;");
        int[] due = {1, 1, 0, 0};
        for (int hour = 0; hour < 4; hour++) {
            Check.due("from an HOUR on: soup(1, 0, 4, " + hour + ")", late.soup(1, 0, 4, hour), due[hour]);
        }
        ConsentDoors full = Check.told("prison cells 2 hours 24 row; cell friendly temper 9 left 0 right 0;"
                + "cell deaf temper 0 left 0 right 0;" + "soup 1 gives left 1 in 0;".repeat(8));
        Check.due("besides eight, in the last HOUR", full.soup(0, 1, 1, 23), 1);
        Check.due("nothing stays: count(4)", full.count(4), 8);
        Check.due("nothing stays: likes(0, 1, 23)", full.likes(0, 1, 23), 8);
        Edge.of(41, "-2: there are none such, there is a wall.");
        Check.within("soup(#, 0, 1, 0)", 1, 2, cell -> x.soup(cell, 0, 1, 0));
        Check.within("soup(#, 1, 1, 0)", 0, 1, cell -> x.soup(cell, 1, 1, 0));
        Check.within("soup(1, #, 1, 0)", 0, 1, side -> x.soup(1, side, 1, 0));
        Check.within("soup(1, 0, #, 0)", 1, 9, n -> x.soup(1, 0, n, 0));
        Check.within("soup(1, 0, 1, #)", 0, 3, hour -> x.soup(1, 0, 1, hour));
        ConsentDoors ring = Check.told(Edge.RING);
        Check.due("no wall: soup(0, 0, 1, 0)", ring.soup(0, 0, 1, 0), 0);
        Check.due("no wall: soup(2, 1, 1, 0)", ring.soup(2, 1, 1, 0), 0);
        Check.withoutPrison("soup(1, 0, 1, 0)", -2, none -> none.soup(1, 0, 1, 0));
    }

    private static void gifts() {
        Edge.of(42, "10 times the CELL and the SIDE by which n more from HOUR 0 on give most, the first of several"
                + " (CELL, then SIDE); NONE: none gives any.");
        String cold = "cell friendly temper 5 left 2 right 2;";
        ConsentDoors x = Check.told(Edge.ROW + cold.repeat(3));
        Check.due("none gives any: gift(2)", x.gift(2), -1);
        Check.due("CELL first: gift(3)", x.gift(3), 10);
        ConsentDoors side = Check.told(Edge.ROW + Edge.DEAF + cold + cold);
        Check.due("then SIDE: gift(9)", side.gift(9), 10);
        side.quarrel(0, 1);
        Check.due("the other SIDE: gift(9)", side.gift(9), 11);
        Check.due("nobody can", Check.told(SHUT).gift(9), -1);
        ConsentDoors two = Check.told("prison cells 2 hours 1 row;" + cold.repeat(2));
        Check.due("of the first CELL: gift(3)", two.gift(3), 1);
        ConsentDoors round = Check.told("prison cells 9 hours 24 ring;" + Edge.DEAF.repeat(7)
                + "cell friendly temper 0 left 0 right 0; cell friendly temper 1 left 1 right 0;");
        Check.due("none of the deaf: gift(1)", round.gift(1), -1);
        ConsentDoors first = Check.told("prison cells 3 hours 24 ring;" + "cell friendly temper 1 left 0 right 1;"
                + Edge.DEAF + "cell friendly temper 0 left 0 right 0;");
        Check.due("no door for 0 on his left: gift(9)", first.gift(9), -1);
        first.temper(2, 9);
        Check.due("the last on his left: gift(9)", first.gift(9), 20);
        ConsentDoors zero = Check.told("prison cells 3 hours 24 ring;" + "cell friendly temper 1 left 0 right 1;"
                + "cell friendly temper 0 left 0 right 0;" + Edge.DEAF);
        Check.due("0, round to the left: gift(1)", zero.gift(1), 0);
        ConsentDoors eighth = Check.told("prison cells 9 hours 24 row;" + Edge.DEAF.repeat(7)
                + "cell friendly temper 1 left 1 right 0; cell deaf temper 0 left 0 right 0;");
        Check.due("71: gift(1)", eighth.gift(1), 71);
        Check.due("from HOUR 0 on", Check.told("prison cells 2 hours 24 row; cell friendly temper 1 left 0 right 0; "
                + Edge.DEAF + "sleeps 0 from 1 to 23;").gift(1), 1);
        Edge.of(42, "-2: there is no such n, no PRISON.");
        Check.within("gift(#)", 1, 9, x::gift);
        Check.withoutPrison("gift(1)", -2, none -> none.gift(1));
    }

    private static void others() {
        Edge.of(43, "By how many more it is, if nobody ever slept (what 0), all likes were 9 (1), all QUARRELS mended (2),"
                + " all were friendly (3), it were a ring or a row, the other (4).");
        Check.due("slept", Check.told("prison cells 2 hours 24 row; sleeps 0 from 0 to 23; sleeps 1 from 0 to 23;").other(0), 1);
        Check.due("likes", Check.told("prison cells 2 hours 24 row; cell friendly temper 9 left 9 right 8;"
                + "cell friendly temper 9 left 0 right 9;").other(1), 1);
        Check.due("QUARRELS", Check.told(SHUT).other(2), 1);
        Check.due("pious", Check.told("prison cells 2 hours 1 row; cell pious temper 0 left 0 right 0; sleeps 1 from 0 to 0;").other(3), 1);
        Check.due("moody", Check.told("prison cells 2 hours 2 row; cell moody 2 temper 0 left 0 right 0; sleeps 0 from 0 to 0;"
                + "sleeps 1 from 0 to 1;").other(3), 1);
        Check.due("deaf", Check.told("prison cells 2 hours 1 row;" + Edge.DEAF + "sleeps 1 from 0 to 0;").other(3), 1);
        Check.due("loyal as they were", Check.told("prison cells 2 hours 2 row; cell deaf temper 0 left 0 right 0 loyal;").other(3), 1);
        Check.due("tempers as they were", Check.told("prison cells 2 hours 2 row; cell deaf temper 1 left 0 right 0 loyal;" + Edge.DEAF)
                .other(3), 1);
        Check.due("fewer by a ring", Check.told(Edge.ROW).other(4), -1);
        Check.due("more by a row", Check.told(Edge.RING).other(4), 1);
        ConsentDoors same = Check.told(Edge.ROW);
        for (int what = 0; what < 4; what++) {
            Check.due("no more: other(" + what + ")", same.other(what), 0);
        }
        // The last of a ring of three quarrels with the first: as a row, they have a wall between them.
        Check.due("a quarrel at the wall", Check.told("prison cells 3 hours 3 ring; quarrel 2;").other(4), 1);
        Edge.of(43, "-1,000: there is no such what, no PRISON, a row of two (4).");
        for (int what : new int[] {-1, 5, 6, 36, Integer.MAX_VALUE, Integer.MIN_VALUE}) {
            Check.due("other(" + what + ")", same.other(what), -1000);
        }
        for (int what = 0; what < 5; what++) {
            int asked = what;
            Check.withoutPrison("other(" + what + ")", -1000, none -> none.other(asked));
        }
        ConsentDoors two = Check.told("prison cells 2 hours 1 row;");
        Check.due("a row of two: other(4)", two.other(4), -1000);
        for (int what = 0; what < 4; what++) {
            Check.due("a row of two: other(" + what + ")", two.other(what), 0);
        }
    }
}
