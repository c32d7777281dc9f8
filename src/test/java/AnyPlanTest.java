/** Promises 23 to 32: what any PLAN can do. */
public final class AnyPlanTest {
    public static void main(String[] args) {
        three();
        astrayOnes();
        large();
        shut();
        wrongOnes();
        Check.finish();
    }

    private static void three() {
        ConsentDoors x = Check.told(MenTest.THREE);
        int[] most = {1, 2, 2, 2};
        int[] best = {-1, -1, 0, 2};
        int[] sets = {2, 4, 6, 6};
        for (int hour = 0; hour < 4; hour++) {
            Check.due("most(" + hour + ")", x.most(hour), most[hour]);
            Check.due("best(" + hour + ")", x.best(hour), best[hour]);
            Check.due("sets(" + hour + ")", x.sets(hour), sets[hour]);
        }
        Check.due("soonest(1)", x.soonest(1), 0);
        Check.due("soonest(2)", x.soonest(2), 1);
        Check.due("soonest(3)", x.soonest(3), -1);
        Check.due("soonest(9)", x.soonest(9), -1);
        int[] together = {0, 0, 2, -1, 1, 1, 2, -1};
        for (int set = 0; set < 8; set++) {
            Check.due("together(" + set + ")", x.together(set), together[set]);
        }
        Check.due("locked()", x.locked(), 0);
        int[] latest = {2, 2, 3};
        int[] earliest = {0, 2, 1};
        for (int cell = 0; cell < 3; cell++) {
            Check.due("others(" + cell + ")", x.others(cell), 1);
            Check.due("latest(" + cell + ")", x.latest(cell), latest[cell]);
            Check.due("earliest(" + cell + ")", x.earliest(cell), earliest[cell]);
        }
    }

    private static void astrayOnes() {
        ConsentDoors x = Check.told(MenTest.THREE);
        Check.due("none is tried: astray()", x.astray(), 2);
        x.plan(2, 1);
        Check.due("the wrong one: astray()", x.astray(), 2);
        x.plan(1, 2);
        Check.due("as many as can be: astray()", x.astray(), -1);
        ConsentDoors y = Check.told("prison cells 3 hours 6 row; plan 1 1;");
        Check.due("the man between: astray()", y.astray(), 1);
        y.plan(1, 0);
        Check.due("time is left for the rest, but none is tried: astray()", y.astray(), 5);
        y.plan(5, 2);
        Check.due("in the last HOUR: astray()", y.astray(), -1);
    }

    private static void large() {
        ConsentDoors x = Check.told("prison cells 9 hours 24 ring;");
        Check.due("friendly, not loyal: most(23)", x.most(23), 4);
        Check.due("best(19)", x.best(19), -1);
        Check.due("best(20)", x.best(20), 0);
        Check.due("best(21)", x.best(21), 2);
        Check.due("best(22)", x.best(22), 4);
        Check.due("best(23)", x.best(23), 6);
        Check.due("sets(23)", x.sets(23), 76);
        Check.due("together(1 + 256)", x.together(257), -1);
        Check.due("together(2 + 256)", x.together(258), 1);
        for (int cell = 0; cell < 9; cell++) {
            Check.due("vow(" + cell + ", 1)", x.vow(cell, 1), 0);
        }
        Check.due("all loyal: most(8)", x.most(8), 9);
        Check.due("all loyal: most(7)", x.most(7), 8);
        Check.due("all loyal: sets(23)", x.sets(23), 512);
        Check.due("all loyal: together(511)", x.together(511), 8);
        Check.due("all loyal: soonest(9)", x.soonest(9), 8);
        Check.due("all loyal: others(8)", x.others(8), 8);
        Check.due("all loyal: best(14)", x.best(14), -1);
        Check.due("all loyal: best(15)", x.best(15), 0);
        Check.due("all loyal: best(23)", x.best(23), 8);
    }

    private static void shut() {
        ConsentDoors x = Check.told("prison cells 3 hours 3 row; quarrel 0;");
        Check.due("locked()", x.locked(), 3);
        Check.due("others(0)", x.others(0), -1);
        Check.due("others(2)", x.others(2), 0);
        Check.due("latest(1)", x.latest(1), -1);
        Check.due("earliest(1)", x.earliest(1), -1);
        Check.due("latest(2)", x.latest(2), 2);
        Check.due("together(1)", x.together(1), -1);
        Check.due("soonest(2)", x.soonest(2), -1);
        x.quarrel(1, 1);
        Check.due("nobody: most(2)", x.most(2), 0);
        Check.due("nobody: best(0)", x.best(0), -1);
        Check.due("nobody: sets(2)", x.sets(2), 1);
        Check.due("nobody: astray()", x.astray(), -1);
        Check.due("nobody: soonest(1)", x.soonest(1), -1);
    }

    private static void wrongOnes() {
        ConsentDoors x = Check.told(MenTest.THREE);
        int[] wrong = {-1, 4, Integer.MAX_VALUE, Integer.MIN_VALUE};
        for (int hour : wrong) {
            Check.due("most", x.most(hour), -2);
            Check.due("best", x.best(hour), -2);
            Check.due("sets", x.sets(hour), -2);
            Check.due("others", x.others(hour), -2);
            Check.due("latest", x.latest(hour), -2);
            Check.due("earliest", x.earliest(hour), -2);
        }
        Check.due("soonest(0)", x.soonest(0), -2);
        Check.due("soonest(10)", x.soonest(10), -2);
        Check.due("together(8)", x.together(8), -2);
        Check.due("together(-1)", x.together(-1), -2);
        ConsentDoors none = new ConsentDoors();
        Check.due("no PRISON: soonest(1)", none.soonest(1), -2);
        Check.due("no PRISON: together(0)", none.together(0), -2);
        Check.due("no PRISON: locked()", none.locked(), -2);
        Check.due("no PRISON: astray()", none.astray(), -2);
    }
}
