/** Boundary cases of promises 14 to 22, 44 and 45: what comes of the PLAN. */
final class EdgePlan {
    // By this PLAN 0 comes out in HOUR 0, 0 is tried again in 1, none in 2, 1 in vain in 3, and 2 comes out in 5, the last.
    private static final String DAY = "prison cells 3 hours 6 row; plan 0 0; plan 1 0; plan 3 1; plan 4 2; plan 5 2;"
            + "sleeps 1 from 4 to 4;";

    private EdgePlan() {
    }

    static void ask() {
        planning();
        openings();
        whys();
        becauses();
        outs();
        frees();
        turns();
        wrists();
        vains();
        openDoors();
        idles();
    }

    private static void planning() {
        Edge.of(14, "In an HOUR the door of a CELL (NONE: none) is tried by the PLAN from now on: of which it was.");
        ConsentDoors x = Check.told(Edge.ROW + "plan 3 2;");
        Check.due("plan(3, 0)", x.plan(3, 0), 2);
        Check.due("from now on: opens(3)", x.opens(3), 0);
        Check.due("plan(3, -1)", x.plan(3, -1), 0);
        Check.due("from now on: why(3)", x.why(3), 1);
        Check.due("of none: plan(3, 2)", x.plan(3, 2), -1);
        Check.due("of the same: plan(3, 2)", x.plan(3, 2), 2);
        Check.due("plan(0, 1)", x.plan(0, 1), -1);
        Check.due("later HOURS follow: opens(3)", x.opens(3), -1);
        Check.due("later HOURS follow: because(3, 0)", x.because(3, 0), 2);
        Check.due("count(8)", x.count(8), 2);
        Edge.of(14, "-2: there are none such.");
        ConsentDoors y = Check.told(Edge.ROW + "plan 0 0; plan 1 1;");
        Check.within("plan(#, 0)", 0, 3, hour -> y.plan(hour, 0));
        ConsentDoors z = Check.told(Edge.ROW + "plan 0 0; plan 1 1;");
        Check.within("plan(1, #)", -1, 2, cell -> z.plan(1, cell));
        ConsentDoors stays = Check.told(Edge.ROW + "plan 3 2;");
        stays.plan(3, 3);
        stays.plan(3, -2);
        Check.due("refused, it stays: opens(3)", stays.opens(3), 2);
        Check.due("refused, it stays: plan(3, 1)", stays.plan(3, 1), 2);
        Check.withoutPrison("plan(0, 0)", -2, none -> none.plan(0, 0));
        Check.withoutPrison("plan(0, -1)", -2, none -> none.plan(0, -1));
    }

    private static void openings() {
        Edge.of(15, "Which CELL's door opens in an HOUR by the PLAN (II); NONE: none.");
        ConsentDoors x = Check.told(DAY);
        int[] opens = {0, -1, -1, -1, -1, 2};
        for (int hour = 0; hour < 6; hour++) {
            Check.due("opens(" + hour + ")", x.opens(hour), opens[hour]);
        }
        Edge.of(15, "-2: there is no such HOUR.");
        Check.within("opens(#)", 0, 5, x::opens);
        Check.withoutPrison("opens(0)", -2, none -> none.opens(0));
    }

    private static void whys() {
        Edge.of(16, "WHY in an HOUR: 0 a door opens, 1 none is tried, 2 who is there is out, 3 the left one does not turn,"
                + " 4 the right one does not (the left one does).");
        ConsentDoors x = Check.told(DAY);
        int[] why = {0, 2, 1, 3, 3, 0};
        for (int hour = 0; hour < 6; hour++) {
            Check.due("why(" + hour + ")", x.why(hour), why[hour]);
        }
        ConsentDoors y = Check.told("prison cells 3 hours 4 row; plan 0 1; plan 1 1; plan 2 1; plan 3 0;"
                + "sleeps 0 from 0 to 1; sleeps 2 from 1 to 2; sleeps 1 from 3 to 3;");
        int[] both = {3, 3, 4, 4};
        for (int hour = 0; hour < 4; hour++) {
            Check.due("of two sleepers: why(" + hour + ")", y.why(hour), both[hour]);
        }
        // A wall on the left needs no key; who is out and might not be turned for either is out all the same.
        ConsentDoors out = Check.told("prison cells 2 hours 2 row; plan 0 0; plan 1 0; sleeps 1 from 1 to 1;");
        Check.due("out ahead of asleep: why(1)", out.why(1), 2);
        Edge.of(16, "-2 likewise.");
        Check.within("why(#)", 0, 5, x::why);
        Check.withoutPrison("why(0)", -2, none -> none.why(0));
    }

    private static void becauses() {
        Edge.of(17, "REASON (II) of the man on a SIDE of the CELL that is tried in an HOUR, 2: he is out;"
                + " NONE: none is tried, who is there is out.");
        ConsentDoors x = Check.told(DAY);
        int[] left = {1, -1, -1, 2, 3, 0};
        int[] right = {0, -1, -1, 0, 1, 1};
        for (int hour = 0; hour < 6; hour++) {
            Check.due("because(" + hour + ", 0)", x.because(hour, 0), left[hour]);
            Check.due("because(" + hour + ", 1)", x.because(hour, 1), right[hour]);
        }
        ConsentDoors y = Check.told("prison cells 5 hours 3 ring; cell deaf temper 0 left 0 right 0;"
                + "cell friendly temper 0 left 0 right 0; cell pious temper 0 left 0 right 0; quarrel 2;"
                + "cell friendly temper 0 left 0 right 0; cell friendly temper 1 left 0 right 0;"
                + "plan 0 1; plan 1 3; plan 2 3;");
        Check.due("deaf: because(0, 0)", y.because(0, 0), 4);
        Check.due("pious: because(0, 1)", y.because(0, 1), 0);
        Check.due("quarrel: because(1, 0)", y.because(1, 0), 5);
        Check.due("liking: because(1, 1)", y.because(1, 1), 7);
        y.plan(1, 1);
        Check.due("not his HOUR: because(1, 1)", y.because(1, 1), 6);
        Edge.of(17, "-2: there are none such.");
        Check.within("because(#, 0)", 0, 5, hour -> x.because(hour, 0));
        Check.within("because(0, #)", 0, 1, side -> x.because(0, side));
        Check.within("none is tried: because(2, #)", 0, 1, side -> x.because(2, side));
        Check.withoutPrison("because(0, 0)", -2, none -> none.because(0, 0));
    }

    private static void outs() {
        Edge.of(18, "Who is out behind an HOUR, as bits.");
        ConsentDoors x = Check.told(DAY);
        int[] out = {1, 1, 1, 1, 1, 5};
        for (int hour = 0; hour < 6; hour++) {
            Check.due("out(" + hour + ")", x.out(hour), out[hour]);
        }
        Check.due("the ninth", Check.told("prison cells 9 hours 24 row; plan 23 8;").out(23), 256);
        Check.due("not ahead", Check.told("prison cells 9 hours 24 row; plan 23 8;").out(22), 0);
        Edge.of(18, "-2: there is no such HOUR.");
        Check.within("out(#)", 0, 5, x::out);
        Check.withoutPrison("out(0)", -2, none -> none.out(0));
    }

    private static void frees() {
        Edge.of(19, "The HOUR in which a CELL's man comes out; NONE: he does not.");
        ConsentDoors x = Check.told(DAY);
        Check.due("in the first: free(0)", x.free(0), 0);
        Check.due("free(1)", x.free(1), -1);
        Check.due("in the last: free(2)", x.free(2), 5);
        Edge.of(19, "-2: there is none such.");
        Check.within("free(#)", 0, 2, x::free);
        Check.withoutPrison("free(0)", -2, none -> none.free(0));
    }

    private static void turns() {
        Edge.of(20, "How many turns a CELL's man makes that open a door.");
        ConsentDoors x = Check.told(DAY);
        Check.due("turned(0)", x.turned(0), 0);
        Check.due("not in vain: turned(1)", x.turned(1), 2);
        Check.due("turned(2)", x.turned(2), 0);
        ConsentDoors y = Check.told("prison cells 3 hours 3 ring;" + Edge.LOYAL.repeat(3) + "plan 0 0; plan 1 1; plan 2 2;");
        for (int cell = 0; cell < 3; cell++) {
            Check.due("loyal, out or in: turned(" + cell + ")", y.turned(cell), 2);
        }
        Edge.of(20, "-2: there is none such.");
        Check.within("turned(#)", 0, 2, x::turned);
        Check.withoutPrison("turned(0)", -2, none -> none.turned(0));
    }

    private static void wrists() {
        Edge.of(21, "LED: the CELL whose man turns on a SIDE for who comes out in an HOUR; NONE: a wall, nobody comes out.");
        ConsentDoors x = Check.told(DAY);
        int[] left = {-1, -1, -1, -1, -1, 1};
        int[] right = {1, -1, -1, -1, -1, -1};
        for (int hour = 0; hour < 6; hour++) {
            Check.due("wrist(" + hour + ", 0)", x.wrist(hour, 0), left[hour]);
            Check.due("wrist(" + hour + ", 1)", x.wrist(hour, 1), right[hour]);
        }
        ConsentDoors ring = Check.told("prison cells 9 hours 2 ring; plan 0 0; plan 1 8;");
        Check.due("round: wrist(0, 0)", ring.wrist(0, 0), 8);
        Check.due("round: wrist(0, 1)", ring.wrist(0, 1), 1);
        Check.due("in vain: wrist(1, 0)", ring.wrist(1, 0), -1);
        Edge.of(21, "-2: there are none such.");
        Check.within("wrist(#, 0)", 0, 5, hour -> x.wrist(hour, 0));
        Check.within("wrist(0, #)", 0, 1, side -> x.wrist(0, side));
        Check.within("nobody comes out: wrist(2, #)", 0, 1, side -> x.wrist(2, side));
        Check.withoutPrison("wrist(0, 0)", -2, none -> none.wrist(0, 0));
    }

    private static void vains() {
        Edge.of(22, "How many doors are tried in vain.");
        Check.due("vain()", Check.told(DAY).vain(), 3);
        Check.due("of 24 HOURS, the last: vain()", Check.told("prison cells 2 hours 24 row; plan 22 0; plan 23 0;").vain(), 1);
        Check.due("none is tried: vain()", Check.told(Edge.ROW).vain(), 0);
        Check.due("none in vain: vain()", Check.told(Edge.ROW + "plan 0 0; plan 3 2;").vain(), 0);
        Check.due("all in vain: vain()", Check.told(Edge.ROW + "plan 0 0; plan 1 0; plan 2 1; plan 3 1; quarrel 0;").vain(), 4);
        Edge.of(22, "-2: there is no PRISON.");
        Check.withoutPrison("vain()", -2, none -> none.vain());
    }

    private static void openDoors() {
        Edge.of(44, "Doors that would open in an HOUR, if they were tried (those who are out by the PLAN ahead of it aside), as bits.");
        ConsentDoors x = Check.told(DAY);
        // 0 is out behind HOUR 0: door 1 wants him. In 4 door 2 wants 1, who sleeps.
        int[] doors = {7, 4, 4, 4, 0, 4};
        for (int hour = 0; hour < 6; hour++) {
            Check.due("doors(" + hour + ")", x.doors(hour), doors[hour]);
        }
        ConsentDoors loyal = Check.told(Edge.ROW + Edge.LOYAL + "plan 0 0;");
        Check.due("who comes out in it: doors(0)", loyal.doors(0), 7);
        Check.due("out and loyal: doors(1)", loyal.doors(1), 6);
        Check.due("all of nine", Check.told("prison cells 9 hours 24 ring;").doors(23), 511);
        Edge.of(44, "-2: there is no such HOUR.");
        Check.within("doors(#)", 0, 5, x::doors);
        Check.withoutPrison("doors(0)", -2, none -> none.doors(0));
    }

    private static void idles() {
        Edge.of(45, "IDLE: in how many HOURS some door would open so, and none does.");
        Check.due("idle()", Check.told(DAY).idle(), 3);
        Check.due("all: idle()", Check.told("prison cells 2 hours 24 row;").idle(), 24);
        Check.due("no door would: idle()", Check.told("prison cells 2 hours 24 row; quarrel 0;").idle(), 0);
        Check.due("all are out that can: idle()", Check.told("prison cells 2 hours 24 row; plan 0 1;").idle(), 0);
        Check.due("tried in vain, others would: idle()", Check.told("prison cells 3 hours 1 row; sleeps 0 from 0 to 0; plan 0 1;").idle(), 1);
        Edge.of(45, "-2: there is no PRISON.");
        Check.withoutPrison("idle()", -2, none -> none.idle());
    }
}
