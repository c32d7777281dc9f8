/** Promises 6 to 13, 46, 47, 57 to 59 and 62: what is told of men, and what they would do, nobody being out. */
public final class MenTest {
    static final String THREE = "prison cells 3 hours 4 row;"
            + "cell friendly temper 3 left 5 right 2;"
            + "cell pious temper 0 left 1 right 1;"
            + "cell moody 2 temper 4 left 4 right 0 loyal;"
            + "sleeps 2 from 3 to 3; soup 1 gives left 1 in 2;";

    public static void main(String[] args) {
        cells();
        neighbours();
        liking();
        reasons();
        hoursAndDoors();
        wantedAndBusy();
        sleepers();
        counts();
        Check.finish();
    }

    private static void cells() {
        ConsentDoors x = Check.told(THREE + "sleeps 2 from 3 to 3; sleeps 1 from 0 to 1;");
        int[][] due = {{0, 0, 3, 5, 2, 0, 0}, {1, 0, 0, 1, 1, 0, 1}, {2, 2, 4, 4, 0, 1, 2}};
        for (int cell = 0; cell < 3; cell++) {
            for (int what = 0; what < 7; what++) {
                Check.due("cell(" + cell + ", " + what + ")", x.cell(cell, what), due[cell][what]);
            }
        }
        Check.due("cell(3, 0)", x.cell(3, 0), -2);
        Check.due("cell(-1, 0)", x.cell(-1, 0), -2);
        Check.due("cell(0, 7)", x.cell(0, 7), -2);
        Check.due("cell(0, -1)", x.cell(0, -1), -2);
        ConsentDoors y = Check.told("prison cells 3 hours 2 ring; cell deaf temper 1 left 1 right 1 loyal;");
        int[] untold = {0, 0, 0, 9, 9, 0, 0};
        for (int what = 0; what < 7; what++) {
            Check.due("not told: cell(2, " + what + ")", y.cell(2, what), untold[what]);
        }
        Check.due("deaf: cell(0, 0)", y.cell(0, 0), 3);
    }

    private static void neighbours() {
        ConsentDoors row = Check.told("prison cells 3 hours 1 row;");
        ConsentDoors ring = Check.told("prison cells 3 hours 1 ring;");
        Check.due("row: beside(0, 0)", row.beside(0, 0), -1);
        Check.due("row: beside(0, 1)", row.beside(0, 1), 1);
        Check.due("row: beside(2, 0)", row.beside(2, 0), 1);
        Check.due("row: beside(2, 1)", row.beside(2, 1), -1);
        Check.due("ring: beside(0, 0)", ring.beside(0, 0), 2);
        Check.due("ring: beside(2, 1)", ring.beside(2, 1), 0);
        Check.due("beside(3, 0)", ring.beside(3, 0), -2);
        Check.due("beside(-1, 0)", ring.beside(-1, 0), -2);
        Check.due("beside(0, 2)", ring.beside(0, 2), -2);
        Check.due("beside(0, -1)", ring.beside(0, -1), -2);
    }

    private static void liking() {
        ConsentDoors x = Check.told(THREE + "soup 1 gives left 9 in 3; soup 1 gives right 2 in 0;");
        Check.due("likes(0, 1, 1)", x.likes(0, 1, 1), 2);
        Check.due("likes(0, 1, 2)", x.likes(0, 1, 2), 3);
        Check.due("likes(0, 1, 3)", x.likes(0, 1, 3), 12);
        Check.due("likes(2, 0, 0)", x.likes(2, 0, 0), 6);
        Check.due("who gives likes no more: likes(1, 0, 3)", x.likes(1, 0, 3), 1);
        Check.due("who gives likes no more: likes(1, 1, 3)", x.likes(1, 1, 3), 1);
        ConsentDoors y = Check.told("prison cells 3 hours 9 ring; cell deaf temper 0 left 0 right 0;"
                + "soup 0 gives right 1 in 0;".repeat(7) + "soup 2 gives right 5 in 8;");
        Check.due("seven soups: likes(1, 0, 0)", y.likes(1, 0, 0), 16);
        Check.due("the eighth, not yet: likes(0, 0, 7)", y.likes(0, 0, 7), 0);
        Check.due("the eighth, round: likes(0, 0, 8)", y.likes(0, 0, 8), 5);
        Check.due("not of the other SIDE: likes(0, 1, 8)", y.likes(0, 1, 8), 0);
        Check.due("who gives round likes no more: likes(2, 1, 8)", y.likes(2, 1, 8), 9);
        Check.due("a wall: likes(0, 0, 0)", x.likes(0, 0, 0), 0);
        Check.due("a wall: likes(2, 1, 0)", x.likes(2, 1, 0), 0);
        Check.due("likes(0, 1, 4)", x.likes(0, 1, 4), -2);
        Check.due("likes(0, 1, -1)", x.likes(0, 1, -1), -2);
        Check.due("likes(0, 2, 0)", x.likes(0, 2, 0), -2);
        Check.due("likes(3, 0, 0)", x.likes(3, 0, 0), -2);
    }

    private static void reasons() {
        ConsentDoors x = Check.told(THREE);
        Check.due("reason(0, 0, 0)", x.reason(0, 0, 0), 1);
        Check.due("reason(0, 1, 0)", x.reason(0, 1, 0), 7);
        Check.due("reason(0, 1, 2)", x.reason(0, 1, 2), 0);
        Check.due("pious, left, even", x.reason(1, 0, 2), 0);
        Check.due("pious, left, odd", x.reason(1, 0, 1), 6);
        Check.due("pious, right, even", x.reason(1, 1, 0), 6);
        Check.due("pious, right, odd", x.reason(1, 1, 3), 0);
        Check.due("moody in 0", x.reason(2, 0, 0), 0);
        Check.due("moody in 1", x.reason(2, 0, 1), 6);
        Check.due("asleep", x.reason(2, 0, 3), 3);
        Check.due("a wall, asleep", x.reason(2, 1, 3), 1);
        Check.due("reason(3, 0, 0)", x.reason(3, 0, 0), -2);
        Check.due("reason(0, 2, 0)", x.reason(0, 2, 0), -2);
        Check.due("reason(0, 0, 4)", x.reason(0, 0, 4), -2);
        ConsentDoors y = Check.told("prison cells 4 hours 2 ring; cell deaf temper 9 left 0 right 0;"
                + "cell pious temper 9 left 0 right 0; cell moody 3 temper 9 left 0 right 0;"
                + "quarrel 3; quarrel 1; sleeps 0 from 1 to 1; sleeps 2 from 0 to 0;");
        Check.due("deaf ahead of quarrel", y.reason(0, 0, 0), 4);
        Check.due("asleep ahead of deaf", y.reason(0, 0, 1), 3);
        Check.due("the last one's quarrel", y.reason(3, 1, 0), 5);
        Check.due("not with the left one", y.reason(3, 0, 0), 0);
        Check.due("quarrel ahead of the HOUR", y.reason(1, 1, 0), 5);
        Check.due("the HOUR ahead of liking", y.reason(1, 0, 1), 6);
        Check.due("liking last", y.reason(1, 0, 0), 7);
        Check.due("asleep ahead of quarrel", y.reason(2, 0, 0), 3);
        Check.due("quarrel with the left one", y.reason(2, 0, 1), 5);
        Check.due("moody ahead of liking", y.reason(2, 1, 1), 6);
    }

    private static void hoursAndDoors() {
        ConsentDoors x = Check.told(THREE);
        int[][] turns = {{0, 12}, {5, 10}, {5, 0}};
        int[] could = {5, 4, 10};
        for (int cell = 0; cell < 3; cell++) {
            Check.due("hours(" + cell + ", 0)", x.hours(cell, 0), turns[cell][0]);
            Check.due("hours(" + cell + ", 1)", x.hours(cell, 1), turns[cell][1]);
            Check.due("could(" + cell + ")", x.could(cell), could[cell]);
        }
        Check.due("hours(3, 0)", x.hours(3, 0), -2);
        Check.due("hours(0, 2)", x.hours(0, 2), -2);
        Check.due("could(3)", x.could(3), -2);
        Check.due("could(-1)", x.could(-1), -2);
        Check.due("longest(2, 0)", x.longest(2, 0), 1);
        Check.due("longest(2, 1)", x.longest(2, 1), 1);
        Check.due("longest(2, 2)", x.longest(2, 2), -2);
        Check.due("longest(3, 0)", x.longest(3, 0), -2);
        Check.due("common(0, 1)", x.common(0, 1), 1);
        Check.due("common(2, 0)", x.common(2, 0), 0);
        Check.due("common(1, 1)", x.common(1, 1), -2);
        Check.due("common(0, 3)", x.common(0, 3), -2);
        Check.due("common(-1, 0)", x.common(-1, 0), -2);
        Check.due("pairs(2)", x.pairs(2), 1);
        Check.due("pairs(0)", x.pairs(0), 0);
        Check.due("pairs(4)", x.pairs(4), -2);
        ConsentDoors y = Check.told("prison cells 3 hours 9 ring; sleeps 1 from 2 to 3; sleeps 1 from 6 to 6;");
        Check.due("runs of 2, 2, 2: could(0)", y.could(0), 3 + 48 + 384);
        Check.due("runs: longest(0, 0)", y.longest(0, 0), 2);
        Check.due("the first of several: longest(0, 1)", y.longest(0, 1), 0);
        Check.due("longest(1, 0)", y.longest(1, 0), 9);
        Check.due("ring: pairs(0)", y.pairs(0), 3);
        Check.due("ring: pairs(2)", y.pairs(2), 1);
        ConsentDoors z = Check.told("prison cells 2 hours 24 row; cell deaf temper 0 left 0 right 0;");
        Check.due("none: longest(1, 0)", z.longest(1, 0), 0);
        Check.due("none: longest(1, 1)", z.longest(1, 1), -1);
        Check.due("all: could(0)", z.could(0), 0xffffff);
    }

    private static void wantedAndBusy() {
        ConsentDoors x = Check.told(THREE);
        Check.due("wanted(0)", x.wanted(0), 1);
        Check.due("both count: wanted(1)", x.wanted(1), 4);
        Check.due("wanted(2)", x.wanted(2), 1);
        Check.due("wanted(3)", x.wanted(3), -2);
        Check.due("busy(0)", x.busy(0), 2);
        Check.due("busy(1)", x.busy(1), 2);
        Check.due("busy(2)", x.busy(2), -2);
        Check.due("busy(-1)", x.busy(-1), -2);
        ConsentDoors y = Check.told("prison cells 3 hours 2 row; cell friendly temper 0 left 0 right 0;"
                + "cell deaf temper 0 left 0 right 0; plan 0 1;");
        Check.due("both in one HOUR: wanted(1)", y.wanted(1), 4);
        Check.due("the first of several: busy(0)", y.busy(0), 0);
        Check.due("busy(1)", y.busy(1), 1);
        ConsentDoors z = Check.told("prison cells 2 hours 2 row; quarrel 0;");
        Check.due("none: busy(0)", z.busy(0), 0);
        Check.due("none: busy(1)", z.busy(1), 0);
        Check.due("a wall helps: wanted(0)", z.wanted(0), 2);
    }

    private static void sleepers() {
        ConsentDoors x = Check.told("prison cells 3 hours 6 row; sleeps 0 from 0 to 2; sleeps 0 from 2 to 3;"
                + "sleeps 1 from 3 to 5; sleeps 2 from 4 to 4;");
        Check.due("sleep(0, 0)", x.sleep(0, 0), 4);
        Check.due("sleep(1, 0)", x.sleep(1, 0), 3);
        Check.due("sleep(0, 1)", x.sleep(0, 1), 3);
        Check.due("of whatever CELL: sleep(2, 1)", x.sleep(2, 1), 3);
        Check.due("sleep(0, 2)", x.sleep(0, 2), -2);
        Check.due("sleep(3, 0)", x.sleep(3, 0), -2);
        int[] asleep = {1, 1, 1, 2, 2, 1};
        for (int hour = 0; hour < 6; hour++) {
            Check.due("asleep(" + hour + ")", x.asleep(hour), asleep[hour]);
        }
        Check.due("asleep(6)", x.asleep(6), -2);
        Check.due("asleep(-1)", x.asleep(-1), -2);
        ConsentDoors y = Check.told("prison cells 3 hours 6 row;");
        Check.due("nobody: sleep(0, 1)", y.sleep(0, 1), 0);
        ConsentDoors z = Check.told("prison cells 3 hours 6 row; sleeps 1 from 2 to 4;");
        Check.due("one alone: sleep(0, 1)", z.sleep(0, 1), 2);
    }

    private static void counts() {
        ConsentDoors x = Check.told("prison cells 4 hours 7 ring; quarrel 0; quarrel 3; sleeps 0 from 0 to 0;"
                + "sleeps 0 from 0 to 0; sleeps 1 from 0 to 0; soup 0 gives left 1 in 0; plan 0 1; plan 0 2; plan 3 3;");
        Check.feed(x, "abc");
        x.row(1, 0, 0);
        x.row(3, 0, 2);
        int[] due = {4, 7, 2, 3, 1, 10, 3, 1, 2, 2};
        for (int what = 0; what < 10; what++) {
            Check.due("count(" + what + ")", x.count(what), due[what]);
        }
        Check.due("count(10)", x.count(10), -1);
        Check.due("count(-1)", x.count(-1), -1);
        x.plan(0, -1);
        x.quarrel(1, 1);
        Check.due("count(8) without one", x.count(8), 1);
        Check.due("count(2) with one more", x.count(2), 3);
    }
}
