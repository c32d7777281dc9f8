/** Boundary cases of the document's Terms. */
final class EdgeTerms {
    private EdgeTerms() {
    }

    static void ask() {
        grammar();
        firstLine();
        sizes();
        cellLines();
        quarrelLines();
        sleepLines();
        soupLines();
        planLines();
        eightEach();
        tokens();
        faults();
        reachOfCells();
        slots();
        neighbours();
        reasons();
        reasonsInOrder();
        openings();
        plans();
        draws();
    }

    // Every TOKEN of every LINE, in its turn, is another one, or the end comes instead: a FAULT at its place.
    private static void grammar() {
        Edge.of("Terms", "LINE: prison cells N hours N ring | prison cells N hours N row | cell KIND temper N left N right N [loyal]"
                + " | quarrel C | sleeps C from N to N | soup C gives left N in N | soup C gives right N in N | plan N C.");
        String[] lines = {"prison cells 3 hours 4 ring ;", "prison cells 3 hours 4 row ;",
            "cell friendly temper 1 left 2 right 3 ;", "cell pious temper 1 left 2 right 3 loyal ;",
            "cell moody 4 temper 1 left 2 right 3 ;", "cell deaf temper 1 left 2 right 3 loyal ;", "quarrel 1 ;",
            "sleeps 1 from 2 to 3 ;", "soup 1 gives left 2 in 3 ;", "soup 1 gives right 2 in 3 ;", "plan 2 1 ;"};
        for (String line : lines) {
            String ahead = line.startsWith("prison") ? "" : Edge.ROW;
            Check.sound(ahead + line, ahead.isEmpty() ? 1 : 2);
            Check.sound(ahead + line.replace(" ", "\n \n"), ahead.isEmpty() ? 1 : 2);
            String[] tokens = line.split(" ");
            String sofar = ahead;
            for (String token : tokens) {
                boolean last = token.equals(";");
                String rest = last ? "" : line.substring(sofar.length() - ahead.length() + token.length());
                Check.faulty(sofar + "zz" + rest, 1, sofar.length());
                Check.faulty(sofar + "?" + rest, 1, sofar.length());
                if (token.charAt(0) >= 'a') {
                    Check.faulty(sofar + "x" + token.substring(1) + rest, 1, sofar.length());
                    Check.faulty(sofar + token.substring(0, token.length() - 1) + "x" + rest, 1, sofar.length());
                    Check.faulty(sofar + token + "x" + rest, 1, sofar.length());
                }
                if (!last && !token.equals("loyal")) {
                    Check.faulty(sofar + ";" + rest, 1, sofar.length());
                }
                if (token.charAt(0) > '9' || last) {
                    Check.faulty(sofar + "7" + rest, 1, sofar.length());
                    Check.faulty(sofar + "99999" + rest, 1, sofar.length());
                }
                if (!sofar.equals(ahead)) {
                    Check.faulty(sofar, 1, sofar.length());
                }
                sofar += token + " ";
            }
        }
    }

    private static void firstLine() {
        Edge.of("Terms", "PRISON: {LINE ;}.");
        Check.sound("", 0);
        Check.sound("prison cells 2 hours 1 row;", 1);
        Check.faulty("prison cells 2 hours 1 row", 1, 26);
        Check.faulty("prison cells 2 hours 1 row;;", 1, 27);
        Check.faulty(";", 1, 0);
        Edge.of("Terms", "prison is the first LINE and no other");
        for (String line : new String[] {"cell friendly temper 0 left 9 right 9;", "quarrel 0;", "sleeps 0 from 0 to 0;",
            "soup 0 gives right 1 in 0;", "plan 0 0;"}) {
            Check.faulty(line, 1, 0);
            Check.faulty(line + Edge.ROW, 1, 0);
            Check.sound(Edge.ROW + line, 2);
            Check.faulty(Edge.ROW + line + Edge.ROW, 1, 27 + line.length());
        }
        Check.faulty(Edge.ROW + Edge.ROW, 1, 27);
    }

    private static void sizes() {
        Edge.of("Terms", "CELLS 2 .. 9");
        Check.faulty("prison cells 0 hours 4 row;", 2, 13);
        Check.faulty("prison cells 1 hours 4 row;", 2, 13);
        Check.sound("prison cells 2 hours 4 row;", 1);
        Check.sound("prison cells 9 hours 4 row;", 1);
        Check.faulty("prison cells 10 hours 4 row;", 2, 13);
        Check.faulty("prison cells 10 hours 4 ring;", 2, 13);
        Check.faulty("prison cells 4294967299 hours 4 row;", 2, 13);
        Check.due("9 CELLS: count(0)", Check.told("prison cells 9 hours 4 row;").count(0), 9);
        Edge.of("Terms", "(of a ring 3 .. 9)");
        Check.faulty("prison cells 2 hours 4 ring;", 2, 23);
        Check.sound("prison cells 3 hours 4 ring;", 1);
        Check.sound("prison cells 9 hours 4 ring;", 1);
        Edge.of("Terms", "HOURS 1 .. 24");
        Check.faulty("prison cells 3 hours 0 row;", 2, 21);
        Check.sound("prison cells 3 hours 1 row;", 1);
        Check.sound("prison cells 3 hours 24 row;", 1);
        Check.faulty("prison cells 3 hours 25 row;", 2, 21);
        Check.faulty("prison cells 3 hours 18446744073709551617 row;", 2, 21);
        Check.due("24 HOURS: count(1)", Check.told("prison cells 3 hours 24 row;").count(1), 24);
        Check.due("24 HOURS: most(23)", Check.told("prison cells 3 hours 24 row;").most(23), 2);
    }

    private static void cellLines() {
        Edge.of("Terms", "[loyal]");
        Check.due("told: cell(0, 5)", Check.told(Edge.ROW + Edge.LOYAL).cell(0, 5), 1);
        Check.due("not told: cell(0, 5)", Check.told(Edge.ROW + Edge.PLAIN).cell(0, 5), 0);
        Check.faulty(Edge.ROW + "cell deaf temper 1 left 1 right 1 loyal loyal;", 1, 67);
        Edge.of("Terms", "KIND: friendly | pious | moody N (2 .. 9) | deaf");
        String[] kinds = {"friendly", "pious", "moody 2", "deaf"};
        for (int kind = 0; kind < 4; kind++) {
            ConsentDoors x = Check.told(Edge.ROW + "cell " + kinds[kind] + " temper 0 left 0 right 0;");
            Check.due(kinds[kind], x.cell(0, 0), kind);
        }
        for (int n = 0; n <= 10; n++) {
            String text = Edge.ROW + "cell moody " + n + " temper 0 left 0 right 0;";
            if (n < 2 || n > 9) {
                Check.faulty(text, 2, 38);
            } else {
                Check.due("moody " + n, Check.told(text).cell(0, 1), n);
            }
        }
        Check.faulty(Edge.ROW + "cell moody temper 0 left 0 right 0;", 1, 38);
        Check.faulty(Edge.ROW + "cell pious 2 temper 0 left 0 right 0;", 1, 38);
        Edge.of("Terms", "temper, left, right 0 .. 9.");
        int[] places = {44, 51, 59};
        for (int n = 0; n <= 10; n += n == 0 || n == 9 ? 1 : 8) {
            for (int what = 0; what < 3; what++) {
                String text = Edge.ROW + "cell deaf temper " + (what == 0 ? n : 3) + " left " + (what == 1 ? n : 4)
                        + " right " + (what == 2 ? n : 5) + ";";
                if (n == 10) {
                    Check.faulty(text, 2, places[what]);
                } else {
                    Check.due("cell(0, " + (what + 2) + ")", Check.told(text).cell(0, what + 2), n);
                }
            }
        }
        Edge.of("Terms", "CELLS are told in order; those that are not are friendly, temper 0, left and right 9, not loyal.");
        ConsentDoors x = Check.told(Edge.ROW + "cell pious temper 1 left 2 right 3 loyal; quarrel 0;"
                + "cell deaf temper 4 left 5 right 6;");
        int[][] due = {{1, 0, 1, 2, 3, 1, 0}, {3, 0, 4, 5, 6, 0, 0}, {0, 0, 0, 9, 9, 0, 0}};
        for (int cell = 0; cell < 3; cell++) {
            for (int what = 0; what < 7; what++) {
                Check.due("cell(" + cell + ", " + what + ")", x.cell(cell, what), due[cell][what]);
            }
        }
    }

    private static void quarrelLines() {
        Edge.of("Terms", "quarrel: of one with its right neighbour");
        ConsentDoors x = Check.told(Edge.ROW + "quarrel 1;");
        Check.due("reason(1, 1, 0)", x.reason(1, 1, 0), 5);
        Check.due("reason(2, 0, 0)", x.reason(2, 0, 0), 5);
        Check.due("reason(1, 0, 0)", x.reason(1, 0, 0), 0);
        Check.due("reason(0, 1, 0)", x.reason(0, 1, 0), 0);
        ConsentDoors round = Check.told(Edge.RING + "quarrel 2;");
        Check.due("reason(2, 1, 0)", round.reason(2, 1, 0), 5);
        Check.due("reason(0, 0, 0)", round.reason(0, 0, 0), 5);
        Check.due("reason(2, 0, 0)", round.reason(2, 0, 0), 0);
        Check.due("reason(0, 1, 0)", round.reason(0, 1, 0), 0);
        Edge.of("Terms", "not of the last of a row");
        Check.faulty(Edge.ROW + "quarrel 2;", 2, 35);
        Check.sound(Edge.ROW + "quarrel 1;", 2);
        Check.sound(Edge.RING + "quarrel 2;", 2);
        Check.faulty("prison cells 9 hours 4 row;quarrel 8;", 2, 35);
        Edge.of("Terms", "not told already");
        Check.faulty(Edge.ROW + "quarrel 0;quarrel 1;quarrel 0;", 2, 55);
        Check.faulty(Edge.RING + "quarrel 2;quarrel 2;", 2, 46);
        Check.sound(Edge.RING + "quarrel 2;quarrel 0;quarrel 1;", 4);
    }

    private static void sleepLines() {
        Edge.of("Terms", "to no less than from");
        Check.sound(Edge.ROW + "sleeps 0 from 2 to 2;", 2);
        Check.faulty(Edge.ROW + "sleeps 0 from 2 to 1;", 2, 46);
        Check.faulty(Edge.ROW + "sleeps 0 from 3 to 0;", 2, 46);
        Edge.of("Terms", "sleeps: HOURS from .. to");
        ConsentDoors x = Check.told(Edge.ROW + "sleeps 1 from 0 to 0; sleeps 2 from 1 to 3; sleeps 0 from 3 to 3;");
        int[] asleep = {1, 1, 1, 2};
        for (int hour = 0; hour < 4; hour++) {
            Check.due("asleep(" + hour + ")", x.asleep(hour), asleep[hour]);
        }
        Check.faulty(Edge.ROW + "sleeps 0 from 4 to 4;", 2, 41);
        Check.faulty(Edge.ROW + "sleeps 0 from 3 to 4;", 2, 46);
        Check.sound("prison cells 2 hours 24 row; sleeps 0 from 0 to 23;", 2);
        Check.sound("prison cells 2 hours 1 row; sleeps 0 from 0 to 0;", 2);
    }

    private static void soupLines() {
        Edge.of("Terms", "soup: 1 .. 9 points for the one on that SIDE");
        Check.faulty(Edge.ROW + "soup 0 gives right 0 in 0;", 2, 46);
        Check.faulty(Edge.ROW + "soup 0 gives right 10 in 0;", 2, 46);
        for (int n = 1; n <= 9; n += 8) {
            ConsentDoors x = Check.told(Edge.ROW + "soup 0 gives right " + n + " in 0;");
            Check.due("likes(1, 0, 0)", x.likes(1, 0, 0), 9 + n);
            Check.due("likes(0, 1, 0)", x.likes(0, 1, 0), 9);
        }
        Edge.of("Terms", "(not a wall)");
        Check.faulty(Edge.ROW + "soup 0 gives left 1 in 0;", 2, 40);
        Check.faulty(Edge.ROW + "soup 2 gives right 1 in 0;", 2, 40);
        Check.sound(Edge.ROW + "soup 2 gives left 1 in 0; soup 0 gives right 1 in 0;", 3);
        Check.due("round, left", Check.told(Edge.RING + "soup 0 gives left 1 in 0;").likes(2, 1, 0), 10);
        Check.due("round, right", Check.told(Edge.RING + "soup 2 gives right 1 in 0;").likes(0, 0, 0), 10);
        Edge.of("Terms", "from an HOUR on");
        ConsentDoors x = Check.told(Edge.ROW + "soup 0 gives right 1 in 3; soup 1 gives right 2 in 0; soup 1 gives left 4 in 1;");
        int[] likes = {9, 9, 9, 10};
        for (int hour = 0; hour < 4; hour++) {
            Check.due("likes(1, 0, " + hour + ")", x.likes(1, 0, hour), likes[hour]);
            Check.due("likes(2, 0, " + hour + ")", x.likes(2, 0, hour), 11);
            Check.due("likes(0, 1, " + hour + ")", x.likes(0, 1, hour), hour == 0 ? 9 : 13);
        }
        Check.faulty(Edge.ROW + "soup 0 gives right 1 in 4;", 2, 51);
    }

    private static void planLines() {
        Edge.of("Terms", "plan: an HOUR, a CELL");
        Check.due("the last of both", Check.told(Edge.ROW + "plan 3 2;").plan(3, -1), 2);
        Check.due("the first of both", Check.told(Edge.ROW + "plan 0 0;").plan(0, -1), 0);
        Check.due("none is told", Check.told(Edge.ROW + "plan 0 0;").plan(1, -1), -1);
        Check.faulty(Edge.ROW + "plan 4 0;", 2, 32);
        Check.faulty(Edge.ROW + "plan 0 3;", 2, 34);
        Edge.of("Terms", "a later one of that HOUR strikes");
        ConsentDoors x = Check.told(Edge.ROW + "plan 1 2; plan 0 1; plan 1 0;");
        Check.due("plan(1, -1)", x.plan(1, -1), 0);
        Check.due("plan(0, -1)", x.plan(0, -1), 1);
    }

    private static void eightEach() {
        Edge.of("Terms", "SLEEPS, SOUPS eight each.");
        String sleeps = "sleeps 0 from 1 to 2;";
        String soup = "soup 0 gives right 1 in 0;";
        Check.sound(Edge.ROW + sleeps.repeat(8) + soup.repeat(8), 17);
        ConsentDoors x = Check.told(Edge.ROW + sleeps.repeat(8) + soup.repeat(8));
        Check.due("count(3)", x.count(3), 8);
        Check.due("count(4)", x.count(4), 8);
        Check.due("cell(0, 6)", x.cell(0, 6), 8);
        Check.due("likes(1, 0, 0)", x.likes(1, 0, 0), 17);
        ConsentDoors eighth = Check.told(Edge.ROW + soup.repeat(7) + "soup 1 gives left 9 in 3;" + sleeps.repeat(7) + "sleeps 2 from 3 to 3;");
        Check.due("the eighth soup, not yet", eighth.likes(0, 1, 2), 9);
        Check.due("the eighth soup", eighth.likes(0, 1, 3), 18);
        Check.due("the eighth sleeps", eighth.sleep(2, 0), 1);
        Check.faulty(Edge.ROW + sleeps.repeat(9), 3, 27 + 8 * 21);
        Check.faulty(Edge.ROW + soup.repeat(9), 3, 27 + 8 * 26);
    }

    private static void tokens() {
        Edge.of("Terms", "TOKENS, blanks (32, 10) aside, the longest: words (a .. z), numbers (digits), the sign ;");
        for (int sign = 0; sign < 256; sign++) {
            char c = (char) sign;
            boolean blank = sign == 32 || sign == 10;
            boolean word = sign >= 'a' && sign <= 'z';
            boolean digit = sign >= '0' && sign <= '9';
            if (blank) {
                Check.sound("" + c, 0);
                Check.sound("prison" + c + "cells 3 hours 4 row;", 1);
                Check.sound("prison cells 3 hours 4" + c + "row" + c + ";" + c, 1);
            } else {
                Check.faulty("" + c, 1, 0);
                Check.faulty("prison" + c + "cells 3 hours 4 row;", 1, word ? 0 : 6);
                Check.faulty("prison cells " + c + " hours", digit && c < '2' ? 2 : 1, digit && c >= '2' ? 20 : 13);
            }
            if (!blank && sign != ';') {
                Check.faulty("prison cells 3 hours 4 row" + c, 1, word ? 23 : 26);
            }
        }
        Check.sound("prison cells3hours4row;cell moody2temper0left0right0loyal;plan0 1;", 3);
        Check.sound("prison cells 00000000003 hours 000000000000000000024 row;", 1);
        Check.faulty("prison cells 3 hours 4 row;plan 01;", 1, 34);
        Check.faulty("prison cells 3 hours 4 rowplan 0 1;", 1, 23);
        Check.faulty("prison cells 33 hours 4 row;", 2, 13);
        Check.faulty("prison cells 3 3 hours 4 row;", 1, 15);
        Check.faulty("pri son cells 3 hours 4 row;", 1, 0);
    }

    private static void faults() {
        Edge.of("Terms", "FAULTS, the first by its place (a TOKEN's first byte; the end's)");
        Check.faulty("prison cells 99 hours 99 ring", 2, 13);
        Check.faulty("prison cells 9 hours 99 ring", 2, 21);
        Check.faulty("prison cells 99 ?", 2, 13);
        Check.faulty(Edge.ROW + "cell foolish temper 10", 1, 32);
        Check.faulty(Edge.ROW + "  quarrel  22222", 2, 38);
        Check.faulty("prison cells 3 hours 4 row", 1, 26);
        Check.faulty("prison cells 3 hours 4 row \n", 1, 28);
        Check.faulty("prison", 1, 6);
        Check.faulty(" ".repeat(1593) + " prison", 1, 1600);
        Check.faulty(" ".repeat(1599) + "?", 1, 1599);
        Edge.of("Terms", "of one place the least");
        Check.faulty(Edge.ROW + "plan 0 1 99;", 1, 36);
        Check.faulty(Edge.ROW + Edge.PLAIN.repeat(3) + "99;", 1, 27 + 3 * 38);
        Check.faulty("prison cells 3 hours 4 99;", 1, 23);
        Edge.of("Terms", "1 a TOKEN that is none, or can't stand there (prison behind the first LINE, another word ahead of it).");
        Check.faulty("prison cells 3 hours 4 row; ?", 1, 28);
        Check.faulty(Edge.ROW + "plan 0 1; prison", 1, 37);
        Check.faulty("plan", 1, 0);
        Check.faulty("prisons", 1, 0);
        Check.faulty("priso", 1, 0);
        Check.faulty("prison hours", 1, 7);
        Check.faulty(Edge.ROW + "cell 3", 1, 32);
        Check.faulty(Edge.ROW + "plan 1 deaf", 1, 34);
        Check.faulty(Edge.ROW + "quarrel 0; quarrel ;", 1, 46);
        Check.faulty(Edge.ROW + "quarrel 0; quarrel one;", 1, 46);
        Check.faulty(Edge.RING + "quarrel 0; quarrel", 1, 46);
        Edge.of("Terms", "2 a number out of its bounds, not as said (cells of a ring that are two: at the word ring; a soup to a wall:"
                + " at the word left, right).");
        Check.faulty("prison cells 2 hours 4 ring", 2, 23);
        Check.faulty("prison cells 2 hours 4 ring 7", 2, 23);
        Check.faulty("prison cells 2 hours 4 rings", 1, 23);
        Check.faulty(Edge.ROW + "soup 0 gives left", 2, 40);
        Check.faulty(Edge.ROW + "soup 2 gives right", 2, 40);
        Check.faulty(Edge.ROW + "soup 2 gives lefts", 1, 40);
        Check.faulty(Edge.ROW + "soup 3 gives right", 2, 32);
        Check.faulty(Edge.ROW + "quarrel 2", 2, 35);
        Edge.of("Terms", "3 a cell more than cells, a 9th sleeps, soup, at its word.");
        Check.faulty("prison cells 2 hours 4 row;" + Edge.PLAIN.repeat(2) + " cell", 3, 28 + 2 * 38);
        Check.faulty("prison cells 9 hours 4 row;" + Edge.PLAIN.repeat(9) + "cell brave", 3, 27 + 9 * 38);
        Check.sound("prison cells 9 hours 4 row;" + Edge.PLAIN.repeat(9), 10);
        Check.faulty(Edge.ROW + "sleeps 1 from 1 to 1;".repeat(8) + " sleeps", 3, 28 + 8 * 21);
        Check.faulty(Edge.ROW + "soup 1 gives left 1 in 0;".repeat(8) + " soup", 3, 28 + 8 * 25);
    }

    private static void reachOfCells() {
        Edge.of("Terms", "C a CELL 0 .. cells less 1 (told or not)");
        Check.sound(Edge.ROW + "sleeps 2 from 0 to 0; soup 2 gives left 1 in 0; plan 0 2; quarrel 1;", 5);
        Check.sound(Edge.ROW + "sleeps 0 from 0 to 0; soup 0 gives right 1 in 0; plan 0 0; quarrel 0;", 5);
        Check.sound(Edge.ROW + Edge.PLAIN + "sleeps 0 from 0 to 0; plan 0 2; plan 1 0; quarrel 1; quarrel 0;", 7);
        Check.faulty(Edge.ROW + "quarrel 3;", 2, 35);
        Check.faulty(Edge.ROW + "sleeps 3 from 0 to 0;", 2, 34);
        Check.faulty(Edge.ROW + "soup 3 gives left 1 in 0;", 2, 32);
        Check.faulty(Edge.ROW + "plan 0 3;", 2, 34);
        Check.faulty(Edge.RING + "quarrel 3;", 2, 36);
    }

    private static void slots() {
        Edge.of("Terms", "SLOTS 0 .. 3 have rows");
        ConsentDoors x = Check.told(Edge.ROW);
        Check.within("row(#, 0, 1)", 0, 3, slot -> x.row(slot, 0, 1));
        Edge.of("Terms", "of numbers of 1, 2, 4 or 8 bytes (WIDTH 0 .. 3)");
        Check.within("row(0, #, 1)", 0, 3, width -> x.row(0, width, 1));
        long[] beyond = {1L << 8, 1L << 16, 1L << 32};
        for (int width = 0; width < 4; width++) {
            for (int i = 0; i < 3; i++) {
                x.row(0, width, 3);
                x.write(0, 2, beyond[i]);
                Check.due("WIDTH " + width + " has " + beyond[i], x.forged(0) == -2 ? 1 : 0, width > i ? 1 : 0);
                x.write(0, 2, beyond[i] - 1);
                Check.due("WIDTH " + width + " has less", x.forged(0), -2);
            }
            x.write(0, 2, Long.MIN_VALUE);
            Check.due("WIDTH " + width + " has the highest bit", x.forged(0), width == 3 ? -2 : 1);
        }
        Edge.of("Terms", "at most 60, or nothing.");
        Check.due("row(1, 0, 60)", x.row(1, 0, 60), 0);
        Check.due("row(1, 0, 61)", x.row(1, 0, 61), -2);
        Check.due("the 60th", x.write(1, 59, 1), 0);
        Check.due("the 61st", x.write(1, 60, 1), -7);
        ConsentDoors y = Check.told(Edge.ROW);
        for (int slot = 0; slot < 4; slot++) {
            Check.due("nothing: forged(" + slot + ")", y.forged(slot), -6);
        }
    }

    private static void neighbours() {
        Edge.of("Terms", "LEFT of a CELL is the one of the number less 1 (of 0 in a ring the last one), right the next one (round).");
        for (int cells = 3; cells <= 9; cells += 3) {
            ConsentDoors ring = Check.told("prison cells " + cells + " hours 1 ring;");
            ConsentDoors row = Check.told("prison cells " + cells + " hours 1 row;");
            for (int cell = 0; cell < cells; cell++) {
                Check.due("ring, left of " + cell, ring.beside(cell, 0), cell == 0 ? cells - 1 : cell - 1);
                Check.due("ring, right of " + cell, ring.beside(cell, 1), cell == cells - 1 ? 0 : cell + 1);
                Check.due("row, left of " + cell, row.beside(cell, 0), cell - 1);
                Check.due("row, right of " + cell, row.beside(cell, 1), cell == cells - 1 ? -1 : cell + 1);
            }
        }
    }

    private static void reasons() {
        Edge.of("Terms", "1 there is a wall");
        ConsentDoors row = Check.told("prison cells 2 hours 2 row;");
        Check.due("reason(0, 0, 0)", row.reason(0, 0, 0), 1);
        Check.due("reason(0, 1, 0)", row.reason(0, 1, 0), 0);
        Check.due("reason(1, 1, 1)", row.reason(1, 1, 1), 1);
        Check.due("reason(1, 0, 1)", row.reason(1, 0, 1), 0);
        Edge.of("Terms", "2 he himself is out and not loyal");
        ConsentDoors out = Check.told("prison cells 2 hours 2 row; plan 0 0; plan 1 1;");
        Check.due("because(1, 0)", out.because(1, 0), 2);
        out.vow(0, 1);
        Check.due("loyal: because(1, 0)", out.because(1, 0), 0);
        Edge.of("Terms", "3 he sleeps, 4 he is deaf, 5 they quarrel");
        ConsentDoors men = Check.told("prison cells 4 hours 4 row;" + Edge.PLAIN + Edge.DEAF + "quarrel 2; sleeps 0 from 1 to 2;");
        int[] sleepy = {0, 3, 3, 0};
        for (int hour = 0; hour < 4; hour++) {
            Check.due("reason(0, 1, " + hour + ")", men.reason(0, 1, hour), sleepy[hour]);
            Check.due("reason(1, 0, " + hour + ")", men.reason(1, 0, hour), 4);
            Check.due("reason(1, 1, " + hour + ")", men.reason(1, 1, hour), 4);
            Check.due("reason(2, 0, " + hour + ")", men.reason(2, 0, hour), 0);
            Check.due("reason(2, 1, " + hour + ")", men.reason(2, 1, hour), 5);
            Check.due("reason(3, 0, " + hour + ")", men.reason(3, 0, hour), 5);
        }
        Edge.of("Terms", "6 he is pious, and the HOUR is odd (for the left one) or even (for the right one), or");
        ConsentDoors pious = Check.told("prison cells 3 hours 24 ring; cell pious temper 0 left 0 right 0;");
        for (int hour = 0; hour < 24; hour++) {
            Check.due("left in " + hour, pious.reason(0, 0, hour), hour % 2 == 1 ? 6 : 0);
            Check.due("right in " + hour, pious.reason(0, 1, hour), hour % 2 == 0 ? 6 : 0);
        }
        Edge.of("Terms", "moody, and the HOUR is no whole number of times his number");
        for (int n = 2; n <= 9; n++) {
            ConsentDoors moody = Check.told("prison cells 2 hours 24 row; cell moody " + n + " temper 0 left 0 right 0;");
            for (int hour = 0; hour < 24; hour++) {
                Check.due(n + " in " + hour, moody.reason(0, 1, hour), hour % n == 0 ? 0 : 6);
            }
        }
        Edge.of("Terms", "7 he likes him (told, and SOUP by then) less than his temper.");
        for (int temper = 0; temper <= 9; temper++) {
            for (int likes = 0; likes <= 9; likes++) {
                ConsentDoors x = Check.told("prison cells 2 hours 2 row; cell friendly temper " + temper + " left 0 right "
                        + likes + "; soup 1 gives left 1 in 1;");
                Check.due(likes + " of " + temper, x.reason(0, 1, 0), likes < temper ? 7 : 0);
                Check.due(likes + " of " + temper + " with soup", x.reason(0, 1, 1), likes + 1 < temper ? 7 : 0);
            }
        }
    }

    private static void reasonsInOrder() {
        Edge.of("Terms", "A man TURNS for the one on a SIDE in an HOUR, if there is no REASON, the least:");
        String sleeps = "sleeps 0 from 1 to 1;";
        String deaf = "cell deaf temper 9 left 0 right 0;";
        String pious = "cell pious temper 9 left 0 right 0;";
        String cold = "cell friendly temper 9 left 0 right 0;";
        String row = "prison cells 2 hours 3 row; plan 0 0; plan 1 1; plan 2 1;";
        Check.due("wall ahead of asleep", Check.told(row + deaf + sleeps).reason(0, 0, 1), 1);
        Check.due("out ahead of asleep", Check.told(row + deaf + sleeps).because(1, 0), 2);
        Check.due("out ahead of deaf", Check.told(row + deaf).because(1, 0), 2);
        Check.due("out ahead of the HOUR", Check.told(row + pious).because(2, 0), 2);
        Check.due("out ahead of liking", Check.told(row + cold).because(1, 0), 2);
        Check.due("asleep ahead of deaf", Check.told(row + deaf + sleeps).reason(0, 1, 1), 3);
        Check.due("asleep ahead of quarrel", Check.told(row + cold + sleeps + "quarrel 0;").reason(0, 1, 1), 3);
        Check.due("asleep ahead of the HOUR", Check.told(row + pious + "sleeps 0 from 2 to 2;").reason(0, 1, 2), 3);
        Check.due("asleep ahead of liking", Check.told(row + cold + sleeps).reason(0, 1, 1), 3);
        Check.due("deaf ahead of quarrel", Check.told(row + deaf + "quarrel 0;").reason(0, 1, 1), 4);
        Check.due("deaf ahead of liking", Check.told(row + deaf).reason(0, 1, 1), 4);
        Check.due("quarrel ahead of the HOUR", Check.told(row + pious + "quarrel 0;").reason(0, 1, 0), 5);
        Check.due("quarrel ahead of liking", Check.told(row + cold + "quarrel 0;").reason(0, 1, 0), 5);
        Check.due("the HOUR ahead of liking", Check.told(row + pious).reason(0, 1, 0), 6);
        Check.due("liking", Check.told(row + pious).reason(0, 1, 1), 7);
        Check.due("none", Check.told(row).reason(0, 1, 1), 0);
    }

    private static void openings() {
        Edge.of("Terms", "HOUR by HOUR the door of the PLAN is tried: it OPENS, if its man is in, and each neighbour TURNS for him (a wall needs no key): he is out then, for good.");
        ConsentDoors x = Check.told("prison cells 3 hours 6 row; plan 0 0; plan 1 0; plan 2 1; plan 3 2; plan 4 2; sleeps 1 from 3 to 3;");
        int[] opens = {0, -1, -1, -1, 2, -1};
        int[] out = {1, 1, 1, 1, 5, 5};
        int[] why = {0, 2, 3, 3, 0, 1};
        for (int hour = 0; hour < 6; hour++) {
            Check.due("opens(" + hour + ")", x.opens(hour), opens[hour]);
            Check.due("out(" + hour + ")", x.out(hour), out[hour]);
            Check.due("why(" + hour + ")", x.why(hour), why[hour]);
        }
        ConsentDoors one = Check.told("prison cells 3 hours 1 row; sleeps 2 from 0 to 0; plan 0 1;");
        Check.due("one of two: opens(0)", one.opens(0), -1);
        ConsentDoors ring = Check.told("prison cells 3 hours 1 ring; sleeps 2 from 0 to 0; plan 0 0;");
        Check.due("round: opens(0)", ring.opens(0), -1);
    }

    private static void plans() {
        Edge.of("Terms", "By any PLAN: a door an HOUR, or none.");
        String all = "prison cells 3 hours 2 row;" + Edge.LOYAL.repeat(3);
        Check.due("no two in one HOUR: most(0)", Check.told(all).most(0), 1);
        Check.due("none: sets(0)", Check.told(all).sets(0), 4);
        Check.due("none: sets(1)", Check.told(all).sets(1), 7);
        Edge.of("Terms", "The first PLAN: none ahead of CELLS, HOUR 0 first.");
        ConsentDoors x = Check.told("prison cells 3 hours 3 row;" + Edge.LOYAL.repeat(3) + "sleeps 1 from 2 to 2;");
        // In HOUR 2 door 1 alone can open: so 0 and 2 come out ahead of it, the less number first.
        int[] best = {0, 2, 1};
        for (int hour = 0; hour < 3; hour++) {
            Check.due("best(" + hour + ")", x.best(hour), best[hour]);
        }
        ConsentDoors late = Check.told("prison cells 3 hours 3 row;");
        int[] none = {-1, 0, 2};
        for (int hour = 0; hour < 3; hour++) {
            Check.due("none first: best(" + hour + ")", late.best(hour), none[hour]);
        }
    }

    private static void draws() {
        Edge.of("Terms", "DRAWS: x becomes (1103515245 x + 12345) modulo 2,147,483,648 (at first it is the seed);"
                + " a draw: x / 65536, cut, modulo 100.");
        int[] seeds = {0, 1, 65535, 1103515245, 1999999999, 2000000000};
        for (int seed : seeds) {
            java.math.BigInteger state = java.math.BigInteger.valueOf(seed);
            for (int n = 1; n <= 6; n++) {
                state = state.multiply(java.math.BigInteger.valueOf(1103515245)).add(java.math.BigInteger.valueOf(12345))
                        .mod(java.math.BigInteger.valueOf(2147483648L));
                int draw = (int) (state.longValue() / 65536 % 100);
                askDraw(seed, n - 1, draw);
            }
        }
        Edge.of("Terms", "DRAWN: HOUR by HOUR, CELL by CELL a draw: its man sleeps in that HOUR, if it is below odds (besides what is told).");
        // From seed 0 the draws are 0, 68, 88, 17: CELL 0, 1 of HOUR 0, then CELL 0, 1 of HOUR 1.
        ConsentDoors x = Check.told("prison cells 2 hours 2 row; plan 0 0; plan 1 1;");
        Check.due("0 is not below 0", x.drawn(0, 0, 0), 1);
        Check.due("HOURS of somebody below 17", x.drawn(0, 17, 2), 1);
        Check.due("HOURS of somebody below 18", x.drawn(0, 18, 2), 2);
        Check.due("68 is not below 68", x.drawn(0, 68, 0), 1);
        Check.due("68 is below 69, 88 is not", x.drawn(0, 69, 0), 2);
        Check.due("88 is below 89", x.drawn(0, 89, 0), 0);
        ConsentDoors y = Check.told("prison cells 2 hours 2 row; plan 1 0; sleeps 0 from 0 to 0; sleeps 1 from 0 to 0;");
        Check.due("those asleep have a draw: 17 is not below 17", y.drawn(0, 17, 0), 1);
        Check.due("those asleep have a draw: 17 is below 18", y.drawn(0, 18, 0), 0);
        ConsentDoors z = Check.told("prison cells 2 hours 1 row; plan 0 0; sleeps 1 from 0 to 0;");
        Check.due("besides what is told", z.drawn(0, 0, 0), 0);
    }

    /** The n-th draw (from 0) is seen by a man who is the only one awake: he sleeps, if odds are above it. */
    private static void askDraw(int seed, int n, int draw) {
        String text = "prison cells 2 hours 3 row;";
        for (int i = 0; i < 6; i++) {
            text += i == n ? "" : "sleeps " + i % 2 + " from " + i / 2 + " to " + i / 2 + ";";
        }
        ConsentDoors x = Check.told(text);
        Check.due("draw " + n + " of seed " + seed + " is not below " + draw, x.drawn(seed, draw, 2), 0);
        Check.due("draw " + n + " of seed " + seed + " is below " + (draw + 1), x.drawn(seed, draw + 1, 2), 1);
    }
}
