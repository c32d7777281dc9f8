/** Boundary cases of promises 6 to 13, 46, 47, 57 to 59 and 62: men, and what they would do, nobody being out. */
final class EdgeMen {
    private EdgeMen() {
    }

    static void ask() {
        cells();
        besides();
        liking();
        reasons();
        hoursOfMen();
        hoursOfDoors();
        runs();
        commons();
        wantedMen();
        busyHours();
        sleepers();
        pairs();
        counts();
    }

    private static void cells() {
        Edge.of(6, "Of a CELL, what 0: KIND (0 friendly, 1 pious, 2 moody, 3 deaf), 1: its number (moody; 0 of others),"
                + " 2: temper, 3: left, 4: right");
        ConsentDoors x = Check.told("prison cells 5 hours 4 row; cell friendly temper 1 left 2 right 3 loyal;"
                + "cell pious temper 4 left 5 right 6; cell moody 9 temper 7 left 8 right 9 loyal; cell deaf temper 0 left 9 right 0;");
        int[][] due = {{0, 0, 1, 2, 3, 1, 0}, {1, 0, 4, 5, 6, 0, 0}, {2, 9, 7, 8, 9, 1, 0}, {3, 0, 0, 9, 0, 0, 0},
            {0, 0, 0, 9, 9, 0, 0}};
        for (int cell = 0; cell < 5; cell++) {
            for (int what = 0; what < 7; what++) {
                Check.due("cell(" + cell + ", " + what + ")", x.cell(cell, what), due[cell][what]);
            }
        }
        Check.tell(x, Edge.ROW + Edge.PLAIN.repeat(3));
        Check.due("no old number: cell(2, 1)", x.cell(2, 1), 0);
        Edge.of(6, "5: 1 if it is loyal, else 0");
        ConsentDoors z = Check.told(Edge.ROW + Edge.LOYAL + Edge.PLAIN);
        Check.due("cell(0, 5)", z.cell(0, 5), 1);
        Check.due("cell(1, 5)", z.cell(1, 5), 0);
        Edge.of(6, "6: how many times its man is told to sleep.");
        ConsentDoors y = Check.told(Edge.ROW + "sleeps 1 from 0 to 3; sleeps 2 from 1 to 1; sleeps 2 from 1 to 1;");
        for (int cell = 0; cell < 3; cell++) {
            Check.due("cell(" + cell + ", 6)", y.cell(cell, 6), cell);
        }
        Check.due("eight times", Check.told(Edge.ROW + "sleeps 2 from 0 to 0;".repeat(8)).cell(2, 6), 8);
        Edge.of(6, "-2: there are none such.");
        for (int cells = 2; cells <= 9; cells++) {
            ConsentDoors n = Check.told("prison cells " + cells + " hours 1 row;");
            Check.within("cell(#, 0)", 0, cells - 1, cell -> n.cell(cell, 0));
        }
        Check.within("cell(0, #)", 0, 6, what -> x.cell(0, what));
        Check.withoutPrison("cell(0, 0)", -2, none -> none.cell(0, 0));
    }

    private static void besides() {
        Edge.of(7, "The neighbour of a CELL on a SIDE (0 left, 1 right); NONE: a wall.");
        ConsentDoors row = Check.told("prison cells 2 hours 4 row;");
        Check.due("beside(0, 0)", row.beside(0, 0), -1);
        Check.due("beside(0, 1)", row.beside(0, 1), 1);
        Check.due("beside(1, 0)", row.beside(1, 0), 0);
        Check.due("beside(1, 1)", row.beside(1, 1), -1);
        ConsentDoors ring = Check.told("prison cells 9 hours 4 ring;");
        Check.due("no wall: beside(0, 0)", ring.beside(0, 0), 8);
        Check.due("no wall: beside(8, 1)", ring.beside(8, 1), 0);
        Edge.of(7, "-2: there are none such.");
        ConsentDoors x = Check.told(Edge.ROW);
        Check.within("beside(#, 0)", 0, 2, cell -> x.beside(cell, 0));
        Check.within("beside(0, #)", 0, 1, side -> x.beside(0, side));
        Check.withoutPrison("beside(0, 1)", -2, none -> none.beside(0, 1));
    }

    private static void liking() {
        Edge.of(8, "How much a CELL's man likes the one on a SIDE in an HOUR (told and soup; a wall: 0).");
        ConsentDoors x = Check.told(Edge.ROW + "cell friendly temper 0 left 7 right 3; cell friendly temper 0 left 0 right 0;"
                + "cell friendly temper 0 left 1 right 8; soup 1 gives left 2 in 1; soup 1 gives left 9 in 3;"
                + "soup 1 gives right 5 in 2;");
        int[] ofFirst = {3, 5, 5, 14};
        int[] ofLast = {1, 1, 6, 6};
        for (int hour = 0; hour < 4; hour++) {
            Check.due("likes(0, 1, " + hour + ")", x.likes(0, 1, hour), ofFirst[hour]);
            Check.due("likes(2, 0, " + hour + ")", x.likes(2, 0, hour), ofLast[hour]);
            Check.due("a wall: likes(0, 0, " + hour + ")", x.likes(0, 0, hour), 0);
            Check.due("a wall: likes(2, 1, " + hour + ")", x.likes(2, 1, hour), 0);
            Check.due("likes(1, 0, " + hour + ")", x.likes(1, 0, hour), 0);
            Check.due("likes(1, 1, " + hour + ")", x.likes(1, 1, hour), 0);
        }
        Check.due("no wall: likes(0, 0, 0)", Check.told(Edge.RING + "cell deaf temper 0 left 7 right 3;").likes(0, 0, 0), 7);
        Check.due("not told: likes(2, 0, 0)", Check.told(Edge.ROW).likes(2, 0, 0), 9);
        Check.due("not told, a wall: likes(2, 1, 0)", Check.told(Edge.ROW).likes(2, 1, 0), 0);
        Edge.of(8, "-2: there are none such.");
        Check.within("likes(#, 0, 0)", 0, 2, cell -> x.likes(cell, 0, 0));
        Check.within("likes(0, #, 0)", 0, 1, side -> x.likes(0, side, 0));
        Check.within("likes(0, 0, #)", 0, 3, hour -> x.likes(0, 0, hour));
        Check.withoutPrison("likes(0, 0, 0)", -2, none -> none.likes(0, 0, 0));
    }

    private static void reasons() {
        Edge.of(9, "REASON (II) why a CELL's man would not turn for the one on a SIDE in an HOUR, nobody being out: 0 he would,"
                + " 1 there is a wall, 3 asleep, 4 deaf, 5 quarrel, 6 not his HOUR, 7 he likes him too little.");
        ConsentDoors x = Check.told("prison cells 5 hours 2 row; cell pious temper 0 left 0 right 0;"
                + "cell deaf temper 0 left 0 right 0; cell friendly temper 1 left 0 right 1; quarrel 3; sleeps 2 from 1 to 1;"
                + "plan 0 4; plan 1 0;");
        int[][] due = {{1, 1, 6, 0}, {4, 4, 4, 4}, {7, 3, 0, 3}, {0, 0, 5, 5}, {5, 5, 1, 1}};
        for (int cell = 0; cell < 5; cell++) {
            for (int side = 0; side < 2; side++) {
                for (int hour = 0; hour < 2; hour++) {
                    Check.due("reason(" + cell + ", " + side + ", " + hour + ")", x.reason(cell, side, hour),
                            due[cell][2 * side + hour]);
                }
            }
        }
        ConsentDoors out = Check.told(Edge.ROW + "plan 0 0;");
        Check.due("nobody being out: reason(0, 1, 3)", out.reason(0, 1, 3), 0);
        Edge.of(9, "-2: there are none such.");
        Check.within("reason(#, 0, 0)", 0, 4, cell -> x.reason(cell, 0, 0));
        Check.within("reason(0, #, 0)", 0, 1, side -> x.reason(0, side, 0));
        Check.within("reason(0, 0, #)", 0, 1, hour -> x.reason(0, 0, hour));
        Check.withoutPrison("reason(0, 0, 0)", -2, none -> none.reason(0, 0, 0));
    }

    private static void hoursOfMen() {
        Edge.of(10, "HOURS (bits) in which he would.");
        ConsentDoors x = Check.told("prison cells 3 hours 24 row; cell moody 9 temper 0 left 0 right 0;"
                + "cell pious temper 1 left 0 right 1; sleeps 2 from 23 to 23; soup 0 gives right 1 in 20;");
        Check.due("a wall: hours(0, 0)", x.hours(0, 0), 0);
        Check.due("hours(0, 1)", x.hours(0, 1), 1 | 1 << 9 | 1 << 18);
        Check.due("hours(1, 0)", x.hours(1, 0), 1 << 20 | 1 << 22);
        Check.due("hours(1, 1)", x.hours(1, 1), 0xaaaaaa);
        Check.due("hours(2, 0)", x.hours(2, 0), 0x7fffff);
        Check.due("a wall: hours(2, 1)", x.hours(2, 1), 0);
        Check.due("all of 24", Check.told("prison cells 2 hours 24 row;").hours(0, 1), 0xffffff);
        Check.due("all of 1", Check.told("prison cells 2 hours 1 row;").hours(0, 1), 1);
        Check.due("out by the PLAN", Check.told(Edge.ROW + "plan 0 0;").hours(0, 1), 15);
        Edge.of(10, "-2: there are none such.");
        Check.within("hours(#, 0)", 0, 2, cell -> x.hours(cell, 0));
        Check.within("hours(0, #)", 0, 1, side -> x.hours(0, side));
        Check.withoutPrison("hours(0, 1)", -2, none -> none.hours(0, 1));
    }

    private static void hoursOfDoors() {
        Edge.of(11, "HOURS (bits) in which the door of a CELL could open, nobody being out.");
        ConsentDoors x = Check.told("prison cells 3 hours 24 row; sleeps 0 from 0 to 0; sleeps 1 from 22 to 23;"
                + "sleeps 2 from 0 to 1; plan 5 1;");
        Check.due("could(0)", x.could(0), 0x3fffff);
        Check.due("could(1)", x.could(1), 0xfffffc);
        Check.due("could(2)", x.could(2), 0x3fffff);
        ConsentDoors ring = Check.told(Edge.RING + "sleeps 2 from 1 to 1;");
        Check.due("round: could(0)", ring.could(0), 13);
        Check.due("he himself may sleep: could(2)", ring.could(2), 15);
        Check.due("in none: could(0)", Check.told("prison cells 2 hours 24 row; quarrel 0;").could(0), 0);
        Edge.of(11, "-2: there is none such.");
        Check.within("could(#)", 0, 2, x::could);
        Check.withoutPrison("could(0)", -2, none -> none.could(0));
    }

    private static void runs() {
        Edge.of(12, "The most such HOURS in a row (what 0), the first of the first such row (1; NONE: there are none).");
        // Door 0 could open in 1, 2, in 4 .. 6 and in 8 .. 10; door 1 in 10 and 11.
        ConsentDoors x = Check.told("prison cells 2 hours 12 row; sleeps 1 from 0 to 0; sleeps 1 from 3 to 3;"
                + "sleeps 1 from 7 to 7; sleeps 1 from 11 to 11; sleeps 0 from 0 to 9;");
        Check.due("longest(0, 0)", x.longest(0, 0), 3);
        Check.due("longest(0, 1)", x.longest(0, 1), 4);
        Check.due("the last ones: longest(1, 0)", x.longest(1, 0), 2);
        Check.due("the last ones: longest(1, 1)", x.longest(1, 1), 10);
        ConsentDoors all = Check.told("prison cells 2 hours 24 row; sleeps 0 from 0 to 22;");
        Check.due("all: longest(0, 0)", all.longest(0, 0), 24);
        Check.due("all: longest(0, 1)", all.longest(0, 1), 0);
        Check.due("the last alone: longest(1, 0)", all.longest(1, 0), 1);
        Check.due("the last alone: longest(1, 1)", all.longest(1, 1), 23);
        ConsentDoors none = Check.told("prison cells 2 hours 4 row; quarrel 0;");
        Check.due("none: longest(0, 0)", none.longest(0, 0), 0);
        Check.due("none: longest(0, 1)", none.longest(0, 1), -1);
        Edge.of(12, "-2: there are none such.");
        Check.within("longest(#, 0)", 0, 1, cell -> x.longest(cell, 0));
        Check.within("longest(0, #)", 0, 1, what -> x.longest(0, what));
        Check.withoutPrison("longest(0, 0)", -2, n -> n.longest(0, 0));
        Check.withoutPrison("longest(0, 1)", -2, n -> n.longest(0, 1));
    }

    private static void commons() {
        Edge.of(13, "How many HOURS there are in which the doors of both of two CELLS could open so.");
        ConsentDoors x = Check.told("prison cells 4 hours 24 row; sleeps 1 from 0 to 11; sleeps 2 from 6 to 22;");
        // Doors could open: 0 in 12 .. 23; 1 in 0 .. 5, 23; 2 in 12 .. 23; 3 in 0 .. 5, 23.
        Check.due("common(0, 1)", x.common(0, 1), 1);
        Check.due("common(1, 0)", x.common(1, 0), 1);
        Check.due("common(0, 2)", x.common(0, 2), 12);
        Check.due("common(3, 1)", x.common(3, 1), 7);
        Check.due("none", Check.told("prison cells 2 hours 4 row; quarrel 0;").common(0, 1), 0);
        Edge.of(13, "-2: there are none such, one twice.");
        Check.within("common(#, 1)", 0, 3, cell -> x.common(cell, 1));
        Check.within("common(1, #)", 0, 3, cell -> x.common(1, cell));
        for (int cell = 0; cell < 4; cell++) {
            Check.due("common(" + cell + ", " + cell + ")", x.common(cell, cell), -2);
        }
        Check.withoutPrison("common(0, 1)", -2, none -> none.common(0, 1));
    }

    private static void wantedMen() {
        Edge.of(46, "In how many HOURS the door of a neighbour (either; both count) does not open, nobody being out,"
                + " for want of this CELL's man alone (the other one there turns, or there is a wall).");
        ConsentDoors x = Check.told("prison cells 4 hours 4 row; sleeps 1 from 1 to 3; sleeps 3 from 2 to 2; plan 0 0; plan 1 3;");
        // 1 is missed by door 0 (a wall beyond) in 1 .. 3, by door 2 in 1 and 3 (3 turns); 3 by door 2 in none but with 1.
        Check.due("wanted(0)", x.wanted(0), 0);
        Check.due("wanted(1)", x.wanted(1), 5);
        Check.due("wanted(2)", x.wanted(2), 0);
        Check.due("wanted(3)", x.wanted(3), 0);
        ConsentDoors ring = Check.told(Edge.RING + Edge.DEAF);
        Check.due("round, both in one HOUR: wanted(0)", ring.wanted(0), 8);
        Check.due("round: wanted(1)", ring.wanted(1), 0);
        ConsentDoors all = Check.told("prison cells 2 hours 24 row; quarrel 0;");
        Check.due("a wall: wanted(0)", all.wanted(0), 24);
        Check.due("a wall: wanted(1)", all.wanted(1), 24);
        Edge.of(46, "-2: there is none such.");
        Check.within("wanted(#)", 0, 3, x::wanted);
        Check.withoutPrison("wanted(0)", -2, none -> none.wanted(0));
    }

    private static void busyHours() {
        Edge.of(47, "The HOUR in which most doors could open, nobody being out (what 0; the first of several), how many (1).");
        ConsentDoors x = Check.told(Edge.ROW + "sleeps 1 from 0 to 0; sleeps 0 from 2 to 2; plan 1 1; plan 0 0;");
        Check.due("the first of several: busy(0)", x.busy(0), 1);
        Check.due("busy(1)", x.busy(1), 3);
        Check.due("the very first of several", Check.told(Edge.ROW).busy(0), 0);
        ConsentDoors last = Check.told("prison cells 9 hours 24 ring; sleeps 8 from 0 to 22;");
        Check.due("the last: busy(0)", last.busy(0), 23);
        Check.due("all: busy(1)", last.busy(1), 9);
        ConsentDoors none = Check.told("prison cells 2 hours 4 row; quarrel 0;");
        Check.due("none: busy(0)", none.busy(0), 0);
        Check.due("none: busy(1)", none.busy(1), 0);
        Edge.of(47, "-2: there is no such what, no PRISON.");
        Check.within("busy(#)", 0, 1, x::busy);
        Check.withoutPrison("busy(0)", -2, n -> n.busy(0));
        Check.withoutPrison("busy(1)", -2, n -> n.busy(1));
    }

    private static void sleepers() {
        Edge.of(57, "SLEEP: in how many HOURS a CELL's man sleeps (what 0), the HOUR in which most sleep, the first of several"
                + " (1: of whatever CELL; 0, if nobody does).");
        ConsentDoors x = Check.told(Edge.ROW + "sleeps 0 from 1 to 2; sleeps 0 from 2 to 3; sleeps 1 from 2 to 3;");
        int[] hours = {3, 2, 0};
        for (int cell = 0; cell < 3; cell++) {
            Check.due("sleep(" + cell + ", 0)", x.sleep(cell, 0), hours[cell]);
            Check.due("the first of several: sleep(" + cell + ", 1)", x.sleep(cell, 1), 2);
        }
        Check.due("the very first of several", Check.told(Edge.ROW + "sleeps 1 from 0 to 1; sleeps 2 from 3 to 3;").sleep(0, 1), 0);
        ConsentDoors last = Check.told("prison cells 3 hours 24 row; sleeps 2 from 23 to 23;");
        Check.due("the last: sleep(0, 1)", last.sleep(0, 1), 23);
        Check.due("all", Check.told("prison cells 3 hours 24 row; sleeps 1 from 0 to 23;").sleep(1, 0), 24);
        Check.due("nobody: sleep(0, 1)", Check.told(Edge.ROW).sleep(0, 1), 0);
        Check.due("nobody: sleep(0, 0)", Check.told(Edge.ROW).sleep(0, 0), 0);
        Edge.of(57, "-2: there are none such.");
        Check.within("sleep(#, 0)", 0, 2, cell -> x.sleep(cell, 0));
        Check.within("sleep(#, 1)", 0, 2, cell -> x.sleep(cell, 1));
        Check.within("sleep(0, #)", 0, 1, what -> x.sleep(0, what));
        Check.withoutPrison("sleep(0, 0)", -2, none -> none.sleep(0, 0));
        Check.withoutPrison("sleep(0, 1)", -2, none -> none.sleep(0, 1));
        Edge.of(58, "In an HOUR how many sleep.");
        int[] asleep = {0, 1, 2, 2};
        for (int hour = 0; hour < 4; hour++) {
            Check.due("asleep(" + hour + ")", x.asleep(hour), asleep[hour]);
        }
        String all = "";
        for (int cell = 0; cell < 8; cell++) {
            all += "sleeps " + cell + " from 0 to 23;";
        }
        Check.due("eight of nine", Check.told("prison cells 9 hours 24 row;" + all).asleep(23), 8);
        Edge.of(58, "-2: there is no such HOUR.");
        Check.within("asleep(#)", 0, 3, x::asleep);
        Check.withoutPrison("asleep(0)", -2, none -> none.asleep(0));
    }

    private static void pairs() {
        Edge.of(59, "PAIRS of neighbours who would turn for one another in an HOUR, nobody being out.");
        Check.due("row of 2", Check.told("prison cells 2 hours 1 row;").pairs(0), 1);
        Check.due("row of 9", Check.told("prison cells 9 hours 24 row;").pairs(23), 8);
        Check.due("ring of 3", Check.told("prison cells 3 hours 1 ring;").pairs(0), 3);
        Check.due("ring of 9", Check.told("prison cells 9 hours 24 ring;").pairs(23), 9);
        Check.due("nobody being out", Check.told(Edge.ROW + "plan 0 0;").pairs(3), 2);
        ConsentDoors five = Check.told("prison cells 5 hours 4 row; sleeps 0 from 1 to 1; sleeps 4 from 2 to 2; sleeps 2 from 3 to 3;");
        Check.due("one SIDE alone", Check.told("prison cells 4 hours 1 row; cell friendly temper 0 left 0 right 0;"
                + "cell friendly temper 5 left 5 right 4; cell friendly temper 5 left 5 right 5;").pairs(0), 2);
        Check.due("one SIDE alone, of three", Check.told("prison cells 3 hours 1 row; cell friendly temper 0 left 0 right 0;"
                + "cell friendly temper 5 left 5 right 4;").pairs(0), 1);
        int[] pairs = {4, 3, 3, 2};
        for (int hour = 0; hour < 4; hour++) {
            Check.due("sleepers: pairs(" + hour + ")", five.pairs(hour), pairs[hour]);
        }
        Check.due("one alone turns", Check.told(Edge.ROW + "cell pious temper 0 left 0 right 0;").pairs(0), 1);
        Check.due("both turn", Check.told(Edge.ROW + "cell pious temper 0 left 0 right 0;").pairs(1), 2);
        Check.due("round, one alone", Check.told(Edge.RING + "cell pious temper 0 left 0 right 0;").pairs(1), 2);
        Edge.of(59, "-2 likewise.");
        ConsentDoors x = Check.told(Edge.ROW);
        Check.within("pairs(#)", 0, 3, x::pairs);
        Check.withoutPrison("pairs(0)", -2, none -> none.pairs(0));
    }

    private static void counts() {
        Edge.of(62, "0 CELLS, 1 HOURS, 2 QUARRELS, 3 SLEEPS, 4 SOUPS, 5 LINES, 6 bytes of the TAPE, 7 1 if it is a ring, else 0,"
                + " 8 doors that the PLAN tries, 9 SLOTS that have a row.");
        ConsentDoors x = Check.told("prison cells 4 hours 5 ring; quarrel 3; quarrel 0; sleeps 1 from 0 to 0;"
                + "soup 0 gives left 1 in 0; soup 0 gives left 1 in 0; soup 0 gives left 1 in 0; plan 4 0; plan 4 1; plan 0 2;");
        Check.feed(x, "sixty");
        x.row(3, 0, 0);
        int[] due = {4, 5, 2, 1, 3, 10, 5, 1, 2, 1};
        for (int what = 0; what <= 9; what++) {
            Check.due("count(" + what + ")", x.count(what), due[what]);
        }
        for (int slot = 0; slot < 4; slot++) {
            x.row(slot, 0, 60);
        }
        Check.due("all four: count(9)", x.count(9), 4);
        for (int hour = 0; hour < 5; hour++) {
            x.plan(hour, 3);
        }
        Check.due("in vain too: count(8)", x.count(8), 5);
        Check.due("a row: count(7)", Check.told(Edge.ROW).count(7), 0);
        Edge.of(62, "NONE for others.");
        for (int what : new int[] {-1, -2, 10, 11, 32, Integer.MAX_VALUE, Integer.MIN_VALUE}) {
            Check.due("count(" + what + ")", x.count(what), -1);
            Check.due("no PRISON: count(" + what + ")", new ConsentDoors().count(what), -1);
        }
    }
}
