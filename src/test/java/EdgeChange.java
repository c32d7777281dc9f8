/** Boundary cases of promises 54 to 56, 63 and 64: what is otherwise from now on, and IMAGES. */
final class EdgeChange {
    private EdgeChange() {
    }

    static void ask() {
        tempers();
        quarrels();
        vows();
        keeping();
        goingBack();
    }

    private static void tempers() {
        Edge.of(54, "The temper of a CELL's man is n (0 .. 9) from now on: what it was.");
        ConsentDoors x = Check.told(Edge.ROW + "cell friendly temper 4 left 8 right 8; plan 3 1;");
        Check.due("temper(0, 9)", x.temper(0, 9), 4);
        Check.due("cell(0, 2)", x.cell(0, 2), 9);
        Check.due("reason(0, 1, 0)", x.reason(0, 1, 0), 7);
        Check.due("could(1)", x.could(1), 0);
        Check.due("opens(3)", x.opens(3), -1);
        Check.due("locked()", x.locked(), 2);
        Check.due("temper(0, 8)", x.temper(0, 8), 9);
        Check.due("opens(3)", x.opens(3), 1);
        Check.due("locked()", x.locked(), 0);
        Check.due("temper(0, 0)", x.temper(0, 0), 8);
        Check.due("temper(2, 9)", x.temper(2, 9), 0);
        Check.due("temper(2, 9)", x.temper(2, 9), 9);
        Edge.of(54, "-2: there are none such.");
        Check.within("temper(#, 0)", 0, 2, cell -> x.temper(cell, 0));
        Check.within("temper(1, #)", 0, 9, n -> x.temper(1, n));
        x.temper(1, 3);
        x.temper(1, 10);
        x.temper(1, -1);
        Check.due("refused, it stays: cell(1, 2)", x.cell(1, 2), 3);
        Check.withoutPrison("temper(0, 0)", -2, none -> none.temper(0, 0));
    }

    private static void quarrels() {
        Edge.of(55, "Whether a CELL's man quarrels with the right one (1, 0) from now on: whether he did.");
        ConsentDoors x = Check.told(Edge.RING + "quarrel 0; plan 3 0;");
        Check.due("quarrel(0, 1)", x.quarrel(0, 1), 1);
        Check.due("quarrel(0, 0)", x.quarrel(0, 0), 1);
        Check.due("opens(3)", x.opens(3), 0);
        Check.due("quarrel(0, 0)", x.quarrel(0, 0), 0);
        Check.due("round: quarrel(2, 1)", x.quarrel(2, 1), 0);
        Check.due("opens(3)", x.opens(3), -1);
        Check.due("because(3, 0)", x.because(3, 0), 5);
        Check.due("because(3, 1)", x.because(3, 1), 0);
        Check.due("locked()", x.locked(), 5);
        Check.due("count(2)", x.count(2), 1);
        Check.due("round: quarrel(2, 0)", x.quarrel(2, 0), 1);
        Edge.of(55, "-2: there are none such, there is a wall.");
        Check.within("ring: quarrel(#, 0)", 0, 2, cell -> x.quarrel(cell, 0));
        Check.within("quarrel(0, #)", 0, 1, is -> x.quarrel(0, is));
        x.quarrel(0, 2);
        Check.due("refused, it stays: count(2)", x.count(2), 1);
        ConsentDoors row = Check.told(Edge.ROW);
        Check.within("row: quarrel(#, 1)", 0, 1, cell -> row.quarrel(cell, 1));
        Check.due("a wall: quarrel(2, 0)", row.quarrel(2, 0), -2);
        Check.due("a wall: quarrel(2, 1)", row.quarrel(2, 1), -2);
        Check.due("refused, it stays: count(2)", row.count(2), 2);
        Check.withoutPrison("quarrel(0, 0)", -2, none -> none.quarrel(0, 0));
    }

    private static void vows() {
        Edge.of(56, "Whether a CELL's man is loyal (1, 0) from now on: whether he was.");
        ConsentDoors x = Check.told("prison cells 9 hours 2 row;" + Edge.LOYAL + "plan 0 0; plan 1 1;");
        Check.due("opens(1)", x.opens(1), 1);
        Check.due("vow(0, 0)", x.vow(0, 0), 1);
        Check.due("opens(1)", x.opens(1), -1);
        Check.due("vow(0, 0)", x.vow(0, 0), 0);
        Check.due("cell(0, 5)", x.cell(0, 5), 0);
        Check.due("vow(0, 1)", x.vow(0, 1), 0);
        Check.due("vow(0, 1)", x.vow(0, 1), 1);
        Check.due("opens(1)", x.opens(1), 1);
        Check.due("the last: vow(8, 1)", x.vow(8, 1), 0);
        Check.due("the last: cell(8, 5)", x.cell(8, 5), 1);
        Check.due("not the others: cell(7, 5)", x.cell(7, 5), 0);
        Edge.of(56, "-2: there are none such.");
        Check.within("vow(#, 0)", 0, 8, cell -> x.vow(cell, 0));
        Check.within("vow(0, #)", 0, 1, is -> x.vow(0, is));
        x.vow(0, 2);
        x.vow(1, -1);
        Check.due("refused, it stays: cell(0, 5)", x.cell(0, 5), 1);
        Check.due("refused, it stays: cell(1, 5)", x.cell(1, 5), 0);
        Check.withoutPrison("vow(0, 0)", -2, none -> none.vow(0, 0));
    }

    private static void keeping() {
        Edge.of(63, "IMAGE k (0 .. 2) keeps the PRISON and the PLAN: 0.");
        ConsentDoors x = new ConsentDoors();
        for (int k = 0; k < 3; k++) {
            Check.tell(x, "prison cells " + (k + 3) + " hours " + (k + 5) + " ring; plan 0 " + k + "; quarrel " + k + ";");
            Check.due("keep(" + k + ")", x.keep(k), 0);
        }
        for (int k = 0; k < 3; k++) {
            Check.due("back(" + k + ")", x.back(k), 0);
            Check.due("count(0) of IMAGE " + k, x.count(0), k + 3);
            Check.due("count(1) of IMAGE " + k, x.count(1), k + 5);
            Check.due("the PLAN of IMAGE " + k, x.plan(0, k), k);
            Check.due("the quarrel of IMAGE " + k, x.quarrel(k, 1), 1);
        }
        x.keep(0);
        x.back(1);
        x.back(0);
        Check.due("kept once more: count(0)", x.count(0), 5);
        Edge.of(63, "-2: no such k.");
        Check.within("keep(#)", 0, 2, x::keep);
        Check.within("without a PRISON: keep(#)", 0, 2, new ConsentDoors()::keep);
        ConsentDoors y = Check.told(Edge.ROW);
        y.keep(3);
        y.keep(-1);
        for (int k = 0; k < 3; k++) {
            Check.due("none is kept by that: back(" + k + ")", y.back(k), -6);
        }
    }

    private static void goingBack() {
        Edge.of(64, "These are as IMAGE k has them: 0.");
        ConsentDoors x = Check.told("prison cells 3 hours 4 ring; cell moody 3 temper 2 left 1 right 9; cell pious temper 0 left 4 right 4 loyal;"
                + "quarrel 2; sleeps 2 from 1 to 2; soup 1 gives left 3 in 2; plan 0 1; plan 3 2;");
        x.keep(2);
        Check.tell(x, "prison cells 9 hours 24 row;" + Edge.DEAF.repeat(9) + "sleeps 0 from 0 to 23; plan 0 8; plan 3 3; plan 23 2;");
        Check.due("back(2)", x.back(2), 0);
        isAsKept(x);
        x.plan(0, -1);
        x.temper(0, 9);
        x.vow(1, 0);
        x.quarrel(0, 1);
        Check.due("back(2) after changes", x.back(2), 0);
        isAsKept(x);
        x.prison();
        Check.due("back(2) from no PRISON", x.back(2), 0);
        isAsKept(x);
        ConsentDoors none = new ConsentDoors();
        none.keep(1);
        Check.tell(none, Edge.ROW);
        Check.due("an IMAGE of no PRISON: back(1)", none.back(1), 0);
        Check.due("no PRISON: count(0)", none.count(0), 0);
        Check.due("no PRISON: vain()", none.vain(), -2);
        Edge.of(64, "-2: no such k; -6: it has nothing.");
        Check.within("back(#) of nothing", 0, 2, new ConsentDoors()::back);
        for (int k = 0; k < 3; k++) {
            ConsentDoors y = Check.told(Edge.ROW);
            y.keep((k + 1) % 3);
            Check.due("back(" + k + ")", y.back(k), -6);
            Check.due("refused, it stays: count(0)", y.count(0), 3);
            Check.due("the other one: back", y.back((k + 1) % 3), 0);
        }
    }

    private static void isAsKept(ConsentDoors x) {
        int[] counts = {3, 4, 1, 1, 1, 8, 0, 1, 2, 0};
        for (int what = 0; what <= 9; what++) {
            Check.due("count(" + what + ")", x.count(what), counts[what]);
        }
        int[][] men = {{2, 3, 2, 1, 9, 0, 0}, {1, 0, 0, 4, 4, 1, 0}, {0, 0, 0, 9, 9, 0, 1}};
        for (int cell = 0; cell < 3; cell++) {
            for (int what = 0; what <= 6; what++) {
                Check.due("cell(" + cell + ", " + what + ")", x.cell(cell, what), men[cell][what]);
            }
        }
        Check.due("sleep(2, 0)", x.sleep(2, 0), 2);
        Check.due("sleep(0, 0)", x.sleep(0, 0), 0);
        Check.due("likes(0, 1, 2)", x.likes(0, 1, 2), 12);
        Check.due("opens(0)", x.opens(0), 1);
        Check.due("why(3)", x.why(3), 4);
        Check.due("could(1)", x.could(1), 9);
        Check.due("locked()", x.locked(), 5);
    }
}
