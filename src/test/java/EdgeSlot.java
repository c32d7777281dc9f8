/** Boundary cases of promises 65 to 67: row, write, paste. */
final class EdgeSlot {
    private static final String TEXT = "prison cells 9 hours 24 row;";

    private EdgeSlot() {
    }

    static void ask() {
        rows();
        writing();
        pasting();
        pastedAsTheyWere();
    }

    private static void rows() {
        Edge.of(65, "A SLOT (0 .. 3) has a row of n numbers of a WIDTH, all 0 (in place of another one): 0.");
        ConsentDoors x = Check.told(TEXT);
        for (int slot = 0; slot < 4; slot++) {
            for (int width = 0; width < 4; width++) {
                Check.due("row(" + slot + ", " + width + ", 3)", x.row(slot, width, 3), 0);
                Check.due("the first", x.write(slot, 0, 23), 0);
                Check.due("the last", x.write(slot, 2, 1), 0);
                Check.due("the first of the last CELL", x.write(slot, 1, 8), 0);
                Check.due("23 8 1: odd", x.odd(slot), -1);
                Check.due("row in place of another one", x.row(slot, width, 3), 0);
                Check.due("0 0 0: odd", x.odd(slot), 0);
                Check.due("0 0 0: refused", x.refused(slot), 256);
            }
            Check.due("SLOTS: count(9)", x.count(9), slot + 1);
        }
        Check.due("none: row(0, 0, 0)", x.row(0, 0, 0), 0);
        Check.due("none, still a row: count(9)", x.count(9), 4);
        Check.due("none: odd(0)", x.odd(0), -1);
        Check.due("60: row(0, 0, 60)", x.row(0, 0, 60), 0);
        Check.due("60 zeros: forged(0)", x.forged(0), 20);
        x.row(0, 0, 3);
        x.row(0, 0, 60);
        Check.due("60 again, all 0: forged(0)", x.forged(0), 20);
        Edge.of(65, "-2: there is no such SLOT or WIDTH (0 .. 3), or n is above 60;");
        ConsentDoors y = Check.told(TEXT);
        Check.within("row(#, 0, 3)", 0, 3, slot -> y.row(slot, 0, 3));
        Check.within("row(0, #, 3)", 0, 3, width -> y.row(0, width, 3));
        for (int n : new int[] {61, 62, 63, 64, 256, 65536, Integer.MAX_VALUE}) {
            Check.due("row(0, 0, " + n + ")", y.row(0, 0, n), -2);
        }
        Check.due("no such SLOT, n below 0: row(4, 0, -1)", y.row(4, 0, -1), -2);
        Check.due("no such SLOT, n below 0: row(-1, 0, -1)", y.row(-1, 0, -1), -2);
        Check.due("no such WIDTH, n below 0: row(0, 4, -1)", y.row(0, 4, -1), -2);
        Check.due("no such WIDTH, n below 0: row(0, -1, -1)", y.row(0, -1, -1), -2);
        ConsentDoors z = Check.told(TEXT);
        z.row(0, 0, 61);
        z.row(1, 4, 1);
        Check.due("refused, no row comes: count(9)", z.count(9), 0);
        Edge.of(65, "-3, and the SLOT stays: n is below 0.");
        Check.write(z, 2, 23, 8, 1);
        for (int n : new int[] {-1, -2, -60, -61, Integer.MIN_VALUE}) {
            Check.due("row(2, 0, " + n + ")", z.row(2, 0, n), -3);
            Check.due("row(1, 0, " + n + ")", z.row(1, 0, n), -3);
            Check.due("the SLOT stays: odd(2)", z.odd(2), -1);
            Check.due("the SLOT stays: write(2, 3, 0)", z.write(2, 3, 0), -7);
            Check.due("the SLOT has nothing still: write(1, 0, 0)", z.write(1, 0, 0), -6);
        }
    }

    private static void writing() {
        Edge.of(66, "Number i of the SLOT's row is v, cut to its WIDTH: 0.");
        for (int width = 0; width < 4; width++) {
            ConsentDoors x = Check.told(TEXT);
            x.row(1, width, 3);
            int bits = 8 << width;
            for (int bit = 0; bit < 64; bit++) {
                Check.due("write", x.write(1, 1, 1L << bit), 0);
                boolean sound = bit < 4 || bit >= bits;
                Check.due("WIDTH " + width + ", bit " + bit + " as CELL", x.refused(1) == -2 ? 1 : 0, sound ? 0 : 1);
            }
            x.write(1, 1, -1);
            Check.due("WIDTH " + width + ", -1", x.refused(1), -2);
            if (width < 3) {
                x.write(1, 1, -1L << bits);
                Check.due("WIDTH " + width + ", above it alone", x.refused(1), 256);
                x.write(1, 1, (-1L << bits) + 8);
                Check.due("WIDTH " + width + ", 8 of it", x.refused(1), 256);
                x.write(1, 1, (-1L << bits) + 9);
                Check.due("WIDTH " + width + ", 9 of it", x.refused(1), -2);
            }
        }
        Edge.of(66, "-2: there is no such SLOT; -6: it has nothing; -7: there is no such number.");
        ConsentDoors y = Check.told(TEXT);
        for (int slot : new int[] {-1, 4, 36, Integer.MAX_VALUE, Integer.MIN_VALUE}) {
            Check.due("write(" + slot + ", 0, 0)", y.write(slot, 0, 0), -2);
            Check.due("write(" + slot + ", 99, 0)", y.write(slot, 99, 0), -2);
        }
        for (int slot = 0; slot < 4; slot++) {
            Check.due("nothing: write(" + slot + ", 0, 0)", y.write(slot, 0, 0), -6);
            Check.due("nothing: write(" + slot + ", -1, 0)", y.write(slot, -1, 0), -6);
        }
        for (int n : new int[] {0, 1, 3, 59, 60}) {
            y.row(3, 2, n);
            for (int i : new int[] {-1, n, n + 1, 60, 61, Integer.MAX_VALUE, Integer.MIN_VALUE}) {
                Check.due("of " + n + ": write(3, " + i + ", 5)", y.write(3, i, 5), -7);
            }
            for (int i = 0; i < n; i++) {
                Check.due("of " + n + ": write(3, " + i + ", 1)", y.write(3, i, 1), 0);
            }
        }
    }

    private static void pasting() {
        ConsentDoors x = Check.told(TEXT);
        Edge.of(67, "-2: there is no such SLOT;");
        for (int slot : new int[] {-1, 4, 36, Integer.MAX_VALUE, Integer.MIN_VALUE}) {
            Check.due("paste(" + slot + ", 0, 0, 0, 0)", x.paste(slot, 0, 0, 0, 0), -2);
            Check.due("paste(0, 0, " + slot + ", 0, 0)", x.paste(0, 0, slot, 0, 0), -2);
            Check.due("paste(0, -1, " + slot + ", 0, 0)", x.paste(0, -1, slot, 0, 0), -2);
        }
        Edge.of(67, "-6: one has nothing;");
        x.row(0, 0, 3);
        Check.due("the other has nothing", x.paste(0, 0, 1, 0, 1), -6);
        Check.due("the first has nothing", x.paste(1, 0, 0, 0, 1), -6);
        Check.due("both have nothing", x.paste(1, 0, 2, 0, 1), -6);
        Check.due("its own has nothing", x.paste(3, 0, 3, 0, 0), -6);
        Check.due("nothing, and beyond", x.paste(0, 99, 1, -1, 1), -6);
        Check.due("no such SLOT ahead of nothing", x.paste(1, 0, 4, 0, 1), -2);
        Edge.of(67, "-8: they are not of one WIDTH;");
        for (int width = 0; width < 4; width++) {
            for (int other = 0; other < 4; other++) {
                x.row(1, width, 3);
                x.row(2, other, 3);
                Check.due("WIDTHS " + width + ", " + other, x.paste(1, 0, 2, 0, 3), width == other ? 0 : -8);
                Check.due("WIDTHS " + width + ", " + other + ", beyond", x.paste(1, 4, 2, -1, 3), width == other ? -7 : -8);
                Check.due("WIDTHS " + width + ", " + other + ", none", x.paste(1, 0, 2, 0, 0), width == other ? 0 : -8);
            }
        }
        Edge.of(67, "-7, and nothing happens: some are beyond their rows (also where n is 0, a place above how many it has),"
                + " or a place or n is below 0.");
        int most = Integer.MAX_VALUE;
        int least = Integer.MIN_VALUE;
        // From a row of 6 to one of 9.
        int[][] beyond = {{0, 0, 7}, {1, 0, 6}, {6, 0, 1}, {5, 0, 2}, {0, 4, 6}, {0, 9, 1}, {0, 8, 2}, {7, 0, 0}, {0, 10, 0},
            {-1, 0, 1}, {0, -1, 1}, {0, 0, -1}, {-1, 0, 0}, {0, -1, 0}, {-1, -1, 2}, {3, 3, -1}, {most, 0, 0}, {0, most, 0},
            {0, 0, most}, {most, 0, most}, {0, most, most}, {most, most, most}, {1, 1, most}, {6, 9, most}, {least, 0, 0},
            {0, least, 0}, {0, 0, least}, {least, least, least}, {most, 0, 1}, {0, most, 1}, {least, 0, most}, {6, 9, -6}};
        for (int[] b : beyond) {
            ConsentDoors y = sixAndNine();
            Check.due("paste(0, " + b[0] + ", 1, " + b[1] + ", " + b[2] + ")", y.paste(0, b[0], 1, b[1], b[2]), -7);
            Check.due("nothing happens: odd(0)", y.odd(0), -1);
            Check.due("nothing happens: odd(1)", y.odd(1), 2);
        }
        int[][] within = {{0, 0, 6}, {0, 3, 6}, {6, 9, 0}, {6, 0, 0}, {0, 9, 0}, {5, 8, 1}, {0, 0, 0}};
        for (int[] w : within) {
            Check.due("paste(0, " + w[0] + ", 1, " + w[1] + ", " + w[2] + ")", sixAndNine().paste(0, w[0], 1, w[1], w[2]), 0);
        }
        ConsentDoors own = sixAndNine();
        Check.due("its own, beyond", own.paste(0, 0, 0, 1, 6), -7);
        Check.due("its own, all", own.paste(0, 0, 0, 0, 6), 0);
        Check.due("its own, none at its end", own.paste(0, 6, 0, 6, 0), 0);
        Check.due("its own, none beyond it", own.paste(0, 7, 0, 0, 0), -7);
        own.row(2, 3, 0);
        Check.due("to a row of none", own.paste(0, 0, 2, 0, 0), 0);
        Check.due("one to a row of none", own.paste(0, 0, 2, 0, 1), -7);
        Check.due("beyond a row of none", own.paste(0, 0, 2, 1, 0), -7);
    }

    // The first tale is all so; of the second the last door is not.
    private static ConsentDoors sixAndNine() {
        ConsentDoors x = Check.told(TEXT);
        Check.write(x, 0, 0, 1, 1, 5, 0, 0);
        Check.write(x, 1, 1, 3, 1, 2, 5, 1, 3, 7, 0);
        return x;
    }

    private static void pastedAsTheyWere() {
        Edge.of(67, "So many numbers of a SLOT's row, from one on, are put to another one's (or its own), from one on, as they were: 0.");
        ConsentDoors x = sixAndNine();
        Check.due("two doors on: paste(1, 0, 0, 3, 3)", x.paste(1, 0, 0, 3, 3), 0);
        Check.due("0 1 1, 1 3 1: odd(0)", x.odd(0), -1);
        Check.due("the first stays: odd(1)", x.odd(1), 2);
        Check.due("the third is so: paste(0, 2, 1, 8, 1)", x.paste(0, 2, 1, 8, 1), 0);
        Check.due("1 3 1, 2 5 1, 3 7 1: odd(1)", x.odd(1), -1);
        Check.due("no more than one: refused(1)", x.refused(1), 32);
        // Its own, by each shift: what was there is moved, not what has just been put.
        for (int width = 0; width < 4; width++) {
            for (int from = 0; from <= 6; from++) {
                for (int to = 0; to <= 6; to++) {
                    moved(width, from, to);
                }
            }
        }
    }

    /** Three of 9 numbers are moved within a row. */
    private static void moved(int width, int from, int to) {
        long[] due = {8, 7, 6, 5, 4, 3, 2, 1, 0};
        ConsentDoors x = Check.told("prison cells 9 hours 1 ring;");
        x.row(0, width, 9);
        for (int i = 0; i < 9; i++) {
            x.write(0, i, due[i]);
        }
        System.arraycopy(due.clone(), from, due, to, 3);
        Check.due("paste(0, " + from + ", 0, " + to + ", 3)", x.paste(0, from, 0, to, 3), 0);
        for (int i = 0; i < 9; i++) {
            int cell = (int) due[i];
            Check.due("WIDTH " + width + ", number " + i + " of 3 moved from " + from + " to " + to, besidesOf(x, width, i),
                    1 << (cell + 8) % 9 | 1 << (cell + 1) % 9);
        }
    }

    /** Number i of SLOT 0 as the CELL whose door opened, seen by its two neighbours, who surely did not refuse. */
    private static int besidesOf(ConsentDoors x, int width, int i) {
        x.row(1, width, 3);
        x.write(1, 2, 1);
        x.paste(0, i, 1, 1, 1);
        return x.sure(1, 1);
    }
}
