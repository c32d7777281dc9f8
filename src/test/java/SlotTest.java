/** Promises 65 to 67: row, write, paste. What a row has is seen by odd(), which is the tale's first untrue door. */
public final class SlotTest {
    private static final String TEXT = "prison cells 3 hours 24 row;";

    public static void main(String[] args) {
        rows();
        writing();
        cutting();
        pasting();
        Check.finish();
    }

    private static void rows() {
        ConsentDoors x = Check.told(TEXT);
        Check.due("row(0, 0, 60)", x.row(0, 0, 60), 0);
        Check.due("row(3, 3, 0)", x.row(3, 3, 0), 0);
        Check.due("count(9)", x.count(9), 2);
        Check.due("row(4, 0, 1)", x.row(4, 0, 1), -2);
        Check.due("row(-1, 0, 1)", x.row(-1, 0, 1), -2);
        Check.due("row(1, 4, 1)", x.row(1, 4, 1), -2);
        Check.due("row(1, -1, 1)", x.row(1, -1, 1), -2);
        Check.due("row(1, 0, 61)", x.row(1, 0, 61), -2);
        Check.due("row(1, 0, -1)", x.row(1, 0, -1), -3);
        Check.due("row(1, 0, least)", x.row(1, 0, Integer.MIN_VALUE), -3);
        Check.due("row(4, 0, -1)", x.row(4, 0, -1), -2);
        Check.due("row(1, 4, -1)", x.row(1, 4, -1), -2);
        Check.due("none came: count(9)", x.count(9), 2);
        Check.write(x, 2, 0, 0, 1, 1, 2, 1);
        Check.due("row(2, 3, -1)", x.row(2, 3, -1), -3);
        Check.due("the SLOT stays: odd(2)", x.odd(2), -1);
        Check.due("row(2, 3, 3) in place of it", x.row(2, 3, 3), 0);
        Check.due("all 0: odd(2)", x.odd(2), 0);
        Check.due("of three: write(2, 3, 0)", x.write(2, 3, 0), -7);
    }

    private static void writing() {
        ConsentDoors x = Check.told(TEXT);
        Check.due("write(4, 0, 0)", x.write(4, 0, 0), -2);
        Check.due("write(-1, 0, 0)", x.write(-1, 0, 0), -2);
        Check.due("write(0, 0, 0)", x.write(0, 0, 0), -6);
        x.row(0, 1, 3);
        Check.due("write(0, 2, 1)", x.write(0, 2, 1), 0);
        Check.due("odd(0)", x.odd(0), -1);
        Check.due("write(0, 3, 1)", x.write(0, 3, 1), -7);
        Check.due("write(0, -1, 1)", x.write(0, -1, 1), -7);
        x.row(1, 1, 0);
        Check.due("a row of none: write(1, 0, 1)", x.write(1, 0, 1), -7);
    }

    private static void cutting() {
        long[] beyond = {1L << 8, 1L << 16, 1L << 32};
        for (int width = 0; width < 4; width++) {
            ConsentDoors x = Check.told(TEXT);
            x.row(0, width, 3);
            x.write(0, 2, 1);
            for (int i = 0; i < 3; i++) {
                x.write(0, 0, beyond[i]);
                Check.due("width " + width + ", " + beyond[i] + ": odd(0)", x.odd(0), width <= i ? -1 : -2);
            }
            x.write(0, 0, -1);
            Check.due("width " + width + ", -1: odd(0)", x.odd(0), -2);
        }
    }

    private static void pasting() {
        ConsentDoors x = Check.told(TEXT);
        x.row(1, 0, 9);
        Check.write(x, 0, 0, 0, 1, 5, 2, 1, 7, 1, 0);
        Check.due("paste(4, 0, 0, 0, 0)", x.paste(4, 0, 0, 0, 0), -2);
        Check.due("paste(0, 0, -1, 0, 0)", x.paste(0, 0, -1, 0, 0), -2);
        Check.due("paste(0, 0, 2, 0, 99)", x.paste(0, 0, 2, 0, 99), -6);
        Check.due("paste(2, 0, 0, 0, 99)", x.paste(2, 0, 0, 0, 99), -6);
        Check.due("paste(2, 0, 4, 0, 0)", x.paste(2, 0, 4, 0, 0), -2);
        Check.due("paste(0, 0, 1, 0, 99)", x.paste(0, 0, 1, 0, 99), -8);
        x.row(1, 3, 6);
        int most = Integer.MAX_VALUE;
        int[][] beyond = {{4, 0, 6}, {0, 1, 6}, {0, 0, 7}, {-1, 0, 1}, {0, -1, 1}, {0, 0, -1}, {10, 0, 0}, {0, 7, 0},
            {most, 0, 1}, {0, most, 1}, {0, 0, most}, {1, 1, most}, {most, most, most}, {-1, 0, 0}};
        for (int[] b : beyond) {
            Check.due("paste(0, " + b[0] + ", 1, " + b[1] + ", " + b[2] + ")", x.paste(0, b[0], 1, b[1], b[2]), -7);
        }
        Check.due("nothing happened: odd(1)", x.odd(1), -2);
        Check.due("paste(0, 9, 1, 6, 0)", x.paste(0, 9, 1, 6, 0), 0);
        Check.due("paste(0, 0, 1, 0, 6)", x.paste(0, 0, 1, 0, 6), 0);
        Check.due("the same tale: odd(1)", x.odd(1), -1);
        Check.due("the source stays: odd(0)", x.odd(0), -1);
        overlapping(x);
    }

    // 0 0 1 1 2 3 4 5 .. is moved by one and by two within its own row, as it was.
    private static void overlapping(ConsentDoors x) {
        Check.write(x, 0, 0, 0, 1, 5, 0, 0);
        Check.due("to the right", x.paste(0, 0, 0, 1, 3), 0);
        // 0 0 0 1 0 0: 1 is no tale of an open door, so the first is untrue.
        Check.due("as they were: odd(0)", x.odd(0), 0);
        Check.write(x, 0, 9, 0, 0, 1, 5, 0, 0);
        Check.due("to the left", x.paste(0, 1, 0, 0, 6), 0);
        x.row(1, 3, 6);
        x.paste(0, 0, 1, 0, 6);
        Check.due("as they were: odd(1)", x.odd(1), -1);
        Check.write(x, 2, 1, 2, 0, 3, 2, 1, 4, 2, 0);
        Check.due("three on", x.paste(2, 0, 2, 3, 6), 0);
        Check.due("HOURS 1, 1, 3: odd(2)", x.odd(2), -2);
        x.write(2, 0, 0);
        Check.due("0 2 0, 1 2 0, 3 2 1: odd(2)", x.odd(2), 0);
        x.write(2, 2, 1);
        Check.due("0 2 1, 1 2 0, 3 2 1: odd(2)", x.odd(2), 2);
    }
}
