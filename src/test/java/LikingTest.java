/** Promises 33 to 36: points of liking. */
public final class LikingTest {
    private static final String COLD = "prison cells 3 hours 2 row;"
            + "cell friendly temper 5 left 0 right 2 loyal;"
            + "cell friendly temper 4 left 1 right 3 loyal;"
            + "cell friendly temper 9 left 3 right 0 loyal;";

    public static void main(String[] args) {
        flattered();
        corridors();
        rings();
        pointsOrMen();
        Check.finish();
    }

    private static void flattered() {
        ConsentDoors x = Check.told(MenTest.THREE);
        Check.due("flatter(1, 0)", x.flatter(1, 0), 1);
        Check.due("flatter(1, 1)", x.flatter(1, 1), -1);
        Check.due("flatter(1, 2)", x.flatter(1, 2), 0);
        Check.due("flatter(1, 3)", x.flatter(1, 3), -1);
        Check.due("flatter(0, 0)", x.flatter(0, 0), 0);
        Check.due("when(1)", x.when(1), 2);
        Check.due("when(0)", x.when(0), 0);
        Check.due("when(2)", x.when(2), 1);
        Check.due("flatter(3, 0)", x.flatter(3, 0), -2);
        Check.due("flatter(0, 4)", x.flatter(0, 4), -2);
        Check.due("when(3)", x.when(3), -2);
        ConsentDoors y = Check.told(COLD + "soup 1 gives right 2 in 1;");
        Check.due("flatter(1, 0)", y.flatter(1, 0), 9);
        Check.due("flatter(1, 1)", y.flatter(1, 1), 7);
        Check.due("when(1)", y.when(1), 1);
        Check.due("flatter(2, 0)", y.flatter(2, 0), 1);
        Check.due("the first of several: when(2)", y.when(2), 0);
        ConsentDoors z = Check.told("prison cells 3 hours 2 row; quarrel 1;");
        Check.due("in none: when(1)", z.when(1), -1);
        Check.due("in none: when(2)", z.when(2), -1);
    }

    private static void corridors() {
        ConsentDoors x = Check.told(COLD);
        int[][] points = {{3, 12, -1}, {-2, 9, 10}, {-2, -2, 1}};
        int[][] men = {{1, 3, -1}, {-2, 2, 3}, {-2, -2, 1}};
        for (int from = 0; from < 3; from++) {
            for (int to = 0; to < 3; to++) {
                Check.due("corridor(" + from + ", " + to + ")", x.corridor(from, to), points[from][to]);
                Check.due("friends(" + from + ", " + to + ")", x.friends(from, to), men[from][to]);
            }
        }
        Check.due("corridor(-1, 0)", x.corridor(-1, 0), -2);
        Check.due("corridor(0, 3)", x.corridor(0, 3), -2);
        Check.due("friends(3, 3)", x.friends(3, 3), -2);
        x.vow(0, 0);
        Check.due("0 last: corridor(0, 1)", x.corridor(0, 1), 12);
        x.vow(1, 0);
        Check.due("neither is loyal: corridor(0, 1)", x.corridor(0, 1), -1);
        Check.due("neither is loyal: friends(0, 1)", x.friends(0, 1), -1);
    }

    private static void rings() {
        ConsentDoors x = Check.told("prison cells 4 hours 4 ring;"
                + "cell friendly temper 1 left 0 right 1 loyal; cell friendly temper 2 left 0 right 1 loyal;"
                + "cell friendly temper 4 left 1 right 4 loyal; cell friendly temper 8 left 7 right 0 loyal;");
        // Doors: 0 lacks 8 of 3 and 2 of 1; 1 lacks 3 of 2; 2 lacks 1 of 1 and 1 of 3; 3 lacks 1 of 0.
        Check.due("one: corridor(0, 0)", x.corridor(0, 0), 10);
        Check.due("round: corridor(3, 0)", x.corridor(3, 0), 11);
        Check.due("round: friends(3, 1)", x.friends(3, 1), 4);
        Check.due("all: corridor(1, 0)", x.corridor(1, 0), 16);
        Check.due("all: friends(1, 0)", x.friends(1, 0), 6);
        Check.due("on: corridor(1, 3)", x.corridor(1, 3), 6);
    }

    private static void pointsOrMen() {
        // Of two HOURS, door 0 and door 3 both want the later one: 0 needs 1 point less there, 3 none of 5.
        ConsentDoors x = Check.told("prison cells 4 hours 2 row;"
                + "cell friendly temper 0 left 0 right 0 loyal; cell friendly temper 1 left 0 right 1 loyal;"
                + "cell friendly temper 9 left 9 right 1 loyal; cell friendly temper 0 left 0 right 0 loyal;"
                + "soup 0 gives right 1 in 1; soup 3 gives left 5 in 1; sleeps 0 from 0 to 1; sleeps 3 from 0 to 0;");
        Check.due("door 3: corridor(3, 3)", x.corridor(3, 3), 3);
        Check.due("door 0: corridor(0, 0)", x.corridor(0, 0), 0);
        Check.due("asleep: corridor(0, 3)", x.corridor(0, 3), -1);
        ConsentDoors y = Check.told("prison cells 3 hours 2 ring;"
                + "cell friendly temper 0 left 0 right 0 loyal; cell friendly temper 1 left 0 right 1 loyal;"
                + "cell friendly temper 9 left 1 right 9 loyal;"
                + "soup 0 gives right 1 in 1; soup 1 gives right 5 in 1;");
        // Door 0: 1 point of one man in HOUR 0, none in 1. Door 1: 8 points in HOUR 0, 3 in 1, of one man.
        Check.due("points: corridor(0, 1)", y.corridor(0, 1), 4);
        Check.due("men: friends(0, 1)", y.friends(0, 1), 1);
    }
}
