/** Promises 14 to 22, 44 and 45: what comes of the PLAN. */
public final class PlanTest {
    public static void main(String[] args) {
        ConsentDoors x = Check.told(MenTest.THREE + "plan 0 1; plan 0 0; plan 1 2; plan 2 1; plan 3 2;");
        course(x);
        wrongOnes(x);
        otherPlans(x);
        walls();
        openDoors();
        Check.finish();
    }

    private static void course(ConsentDoors x) {
        int[] opens = {0, 2, -1, -1};
        int[] why = {0, 0, 3, 2};
        int[] left = {1, 0, 2, -1};
        int[] right = {0, 1, 0, -1};
        int[] out = {1, 5, 5, 5};
        int[] wristLeft = {-1, 1, -1, -1};
        int[] wristRight = {1, -1, -1, -1};
        for (int hour = 0; hour < 4; hour++) {
            Check.due("opens(" + hour + ")", x.opens(hour), opens[hour]);
            Check.due("why(" + hour + ")", x.why(hour), why[hour]);
            Check.due("because(" + hour + ", 0)", x.because(hour, 0), left[hour]);
            Check.due("because(" + hour + ", 1)", x.because(hour, 1), right[hour]);
            Check.due("out(" + hour + ")", x.out(hour), out[hour]);
            Check.due("wrist(" + hour + ", 0)", x.wrist(hour, 0), wristLeft[hour]);
            Check.due("wrist(" + hour + ", 1)", x.wrist(hour, 1), wristRight[hour]);
        }
        Check.due("free(0)", x.free(0), 0);
        Check.due("free(1)", x.free(1), -1);
        Check.due("free(2)", x.free(2), 1);
        Check.due("turned(0)", x.turned(0), 0);
        Check.due("turned(1)", x.turned(1), 2);
        Check.due("turned(2)", x.turned(2), 0);
        Check.due("vain()", x.vain(), 2);
    }

    private static void wrongOnes(ConsentDoors x) {
        int[] wrong = {-1, 4, 24, Integer.MAX_VALUE, Integer.MIN_VALUE};
        for (int hour : wrong) {
            Check.due("opens", x.opens(hour), -2);
            Check.due("why", x.why(hour), -2);
            Check.due("because", x.because(hour, 0), -2);
            Check.due("out", x.out(hour), -2);
            Check.due("wrist", x.wrist(hour, 0), -2);
            Check.due("doors", x.doors(hour), -2);
            Check.due("plan", x.plan(hour, 0), -2);
        }
        int[] wrongCells = {-1, 3, 9, Integer.MAX_VALUE, Integer.MIN_VALUE};
        for (int cell : wrongCells) {
            Check.due("free", x.free(cell), -2);
            Check.due("turned", x.turned(cell), -2);
        }
        Check.due("plan(0, 3)", x.plan(0, 3), -2);
        Check.due("plan(0, -2)", x.plan(0, -2), -2);
        Check.due("because(0, 2)", x.because(0, 2), -2);
        Check.due("wrist(0, -1)", x.wrist(0, -1), -2);
        Check.due("plan(0, 0)", x.plan(0, 0), 0);
    }

    private static void otherPlans(ConsentDoors x) {
        Check.due("plan(0, -1)", x.plan(0, -1), 0);
        Check.due("none is tried: why(0)", x.why(0), 1);
        Check.due("none is tried: because(0, 1)", x.because(0, 1), -1);
        Check.due("opens(2)", x.opens(2), 1);
        Check.due("who is out and loyal turns: turned(2)", x.turned(2), 1);
        Check.due("turned(0)", x.turned(0), 1);
        Check.due("out(3)", x.out(3), 6);
        Check.due("vain()", x.vain(), 1);
        Check.due("plan(0, 2)", x.plan(0, 2), -1);
        Check.due("the left one does not turn: why(0)", x.why(0), 3);
        Check.due("because(0, 0)", x.because(0, 0), 6);
        Check.due("a wall: because(0, 1)", x.because(0, 1), 1);
        Check.due("plan(3, 1)", x.plan(3, 1), 2);
        Check.due("plan(2, -1)", x.plan(2, -1), 1);
        Check.due("the right one does not: why(3)", x.why(3), 4);
        Check.due("because(3, 0)", x.because(3, 0), 0);
        Check.due("because(3, 1)", x.because(3, 1), 3);
    }

    private static void walls() {
        ConsentDoors x = Check.told("prison cells 2 hours 3 row; cell friendly temper 0 left 0 right 0 loyal; plan 0 0; plan 2 1;");
        Check.due("opens(0)", x.opens(0), 0);
        Check.due("loyal: opens(2)", x.opens(2), 1);
        Check.due("turned(0)", x.turned(0), 1);
        Check.due("turned(1)", x.turned(1), 1);
        Check.due("wrist(2, 0)", x.wrist(2, 0), 0);
        Check.due("wrist(2, 1)", x.wrist(2, 1), -1);
        ConsentDoors ring = Check.told("prison cells 3 hours 3 ring; plan 0 0; plan 1 1; plan 2 2;");
        Check.due("ring: wrist(0, 0)", ring.wrist(0, 0), 2);
        Check.due("ring: wrist(0, 1)", ring.wrist(0, 1), 1);
        Check.due("out, not loyal: why(1)", ring.why(1), 3);
        Check.due("out, not loyal: why(2)", ring.why(2), 4);
        Check.due("because(2, 1)", ring.because(2, 1), 2);
        Check.due("vain()", ring.vain(), 2);
    }

    private static void openDoors() {
        ConsentDoors x = Check.told(MenTest.THREE + "plan 0 0; plan 2 1;");
        Check.due("doors(0)", x.doors(0), 1);
        Check.due("doors(1)", x.doors(1), 4);
        Check.due("who is out does not turn: doors(2)", x.doors(2), 0);
        Check.due("doors(3)", x.doors(3), 4);
        Check.due("idle()", x.idle(), 2);
        x.plan(1, 2);
        Check.due("idle() with one less", x.idle(), 0);
        Check.due("doors(1) with it", x.doors(1), 4);
        Check.due("who is out is aside: doors(3)", x.doors(3), 0);
        x.plan(0, 2);
        Check.due("a door in vain is idle too", x.idle(), 1);
    }
}
