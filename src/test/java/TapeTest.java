/** Promises 1 to 5: a new object, feed, end, prison, fault. */
public final class TapeTest {
    private static final String ROW = "prison cells 3 hours 4 row;";

    public static void main(String[] args) {
        newObject();
        feedAndEnd();
        lines();
        words();
        bounds();
        tooMany();
        whatStays();
        Check.finish();
    }

    private static void newObject() {
        ConsentDoors x = new ConsentDoors();
        for (int what = 0; what <= 9; what++) {
            Check.due("new: count(" + what + ")", x.count(what), 0);
        }
        Check.due("new: cell(0, 0)", x.cell(0, 0), -2);
        Check.due("new: most(0)", x.most(0), -2);
        Check.due("new: plan(0, -1)", x.plan(0, -1), -2);
        Check.due("new: back(0)", x.back(0), -6);
    }

    private static void feedAndEnd() {
        ConsentDoors x = new ConsentDoors();
        Check.due("end(0)", x.end(0), 0);
        Check.due("end(1)", x.end(1), -1);
        Check.due("feed", x.feed(0x70726973, 0x6f6e2063, 0x656c6c73, 0x20322068, 0x6f757273), 20);
        Check.due("feed", x.feed(0x20312072, 0x6f773bff, 0, 0, 0), 40);
        Check.due("end(41)", x.end(41), -1);
        Check.due("end(-1)", x.end(-1), -1);
        Check.due("count(6)", x.count(6), 40);
        Check.due("end(27)", x.end(27), 27);
        Check.due("end(28)", x.end(28), -1);
        Check.due("prison() of bytes, the highest first", x.prison(), 1);
        Check.due("count(6)", x.count(6), 0);
        Check.due("count(0)", x.count(0), 2);
        for (int i = 1; i <= 80; i++) {
            Check.due("feed " + i, x.feed(0x20202020, 0x20202020, 0x20202020, 0x20202020, 0x0a0a0a0a), 20 * i);
        }
        Check.due("feed above 1,600", x.feed(1, 2, 3, 4, 5), -1);
        Check.due("count(6) when full", x.count(6), 1600);
        Check.due("end(1581)", x.end(1581), 1581);
        Check.due("feed above 1,600, nearly", x.feed(1, 2, 3, 4, 5), -1);
        Check.due("end(1580)", x.end(1580), 1580);
        Check.due("feed up to 1,600", x.feed(0x20202020, 0x20202020, 0x20202020, 0x20202020, 0x0a0a0a0a), 1600);
        Check.due("prison() of blanks", x.prison(), 0);
        Check.due("no PRISON then", x.count(0), 0);
        Check.due("no HOURS then", x.count(1), 0);
        cutShort();
    }

    // What is cut off is not read, even in the midst of a TOKEN.
    private static void cutShort() {
        ConsentDoors x = new ConsentDoors();
        Check.feed(x, "prison cells 3 hours 4 row; plan 3 15; cell deaf");
        x.end(36);
        Check.feed(x, ";");
        Check.due("cut in a number", x.prison(), 2);
        Check.due("plan(3, 0)", x.plan(3, 0), 1);
        Check.feed(x, "prison cells 3 hours 24 rows;");
        x.end(22);
        Check.due("cut behind a digit", x.prison(), -4);
        Check.due("fault(0)", x.fault(0), 1);
        Check.due("fault(1)", x.fault(1), 22);
        Check.feed(x, "prison cells 3 hours 55");
        x.end(22);
        Check.due("5 of 55", x.prison(), -4);
        Check.due("fault(0) is not of 55", x.fault(0), 1);
    }

    private static void lines() {
        Check.sound(ROW, 1);
        Check.sound("", 0);
        Check.sound(" \n ", 0);
        Check.sound("prison cells 2 hours 1 row;", 1);
        Check.sound("prison cells 9 hours 24 ring;", 1);
        Check.sound("prison cells 3 hours 1 ring ;\n", 1);
        Check.sound("prison cells3hours4row;cell moody2temper0left0right0loyal;", 2);
        Check.sound("prison cells 003 hours 0004 row;", 1);
        Check.sound(ROW + "cell friendly temper 0 left 9 right 9; cell pious temper 9 left 0 right 0 loyal;"
                + " cell deaf temper 1 left 2 right 3;", 4);
        Check.sound(ROW + "cell moody 9 temper 1 left 2 right 3;", 2);
        Check.sound(ROW + "quarrel 0; quarrel 1;", 3);
        Check.sound("prison cells 3 hours 4 ring; quarrel 2;", 2);
        Check.sound(ROW + "sleeps 2 from 3 to 3; soup 0 gives right 1 in 0; soup 2 gives left 9 in 3;", 4);
        Check.sound(ROW + "plan 0 2; plan 0 1; plan 3 0;", 4);
    }

    private static void words() {
        Check.faulty("prison", 1, 6);
        Check.faulty("prison cells 3 hours 4 row", 1, 26);
        Check.faulty("prison cells 3 hours 4 row \n ", 1, 29);
        Check.faulty("cell friendly temper 0 left 9 right 9;", 1, 0);
        Check.faulty("  prisons", 1, 2);
        Check.faulty("brison", 1, 0);
        Check.faulty(ROW + "cellz", 1, 27);
        Check.faulty(ROW + "cell az", 1, 32);
        Check.faulty(";", 1, 0);
        Check.faulty("3", 1, 0);
        Check.faulty("prison cells x", 1, 13);
        Check.faulty("prison cells ;", 1, 13);
        Check.faulty("prison cells 3 hours 4 round;", 1, 23);
        Check.faulty("prison cells 3 hours 4 7;", 1, 23);
        Check.faulty("prison cells 3 hours 4 ring ring;", 1, 28);
        Check.faulty("prisoncells 3 hours 4 row;", 1, 0);
        Check.faulty("Prison", 1, 0);
        Check.faulty("prison\tcells", 1, 6);
        Check.faulty("prison cells -3", 1, 13);
        Check.faulty("prison cells 3\r", 1, 14);
        Check.faulty("\u0000", 1, 0);
        Check.faulty("prison \u00e9", 1, 7);
        Check.faulty(ROW + ROW, 1, 27);
        Check.faulty(ROW + ";", 1, 27);
        Check.faulty(ROW + "friendly;", 1, 27);
        Check.faulty(ROW + "cell brave", 1, 32);
        Check.faulty(ROW + "cell moody temper", 1, 38);
        Check.faulty(ROW + "cell pious 2", 1, 38);
        Check.faulty(ROW + "cell deaf temper 1 right 1", 1, 46);
        Check.faulty(ROW + "cell deaf temper 1 left 1 right 1 loyal loyal", 1, 67);
        Check.faulty(ROW + "cell deaf temper 1 left 1 right 1", 1, 60);
        Check.faulty(ROW + "quarrel one", 1, 35);
        Check.faulty(ROW + "sleeps 0 to", 1, 36);
        Check.faulty(ROW + "sleeps 0 from 1 2", 1, 43);
        Check.faulty(ROW + "soup 0 takes", 1, 34);
        Check.faulty(ROW + "soup 0 gives both", 1, 40);
        Check.faulty(ROW + "soup 0 gives right 1 at", 1, 48);
        Check.faulty(ROW + "plan 0 1 2", 1, 36);
        Check.faulty(ROW + "plan 0;", 1, 33);
    }

    private static void bounds() {
        Check.faulty("prison cells 1 hours", 2, 13);
        Check.faulty("prison cells 10 hours", 2, 13);
        Check.faulty("prison cells 4294967298 hours 1 row;", 2, 13);
        Check.faulty("prison cells 99999999999999999999 hours 1 row;", 2, 13);
        Check.faulty("prison cells 2 hours 0 ring", 2, 21);
        Check.faulty("prison cells 2 hours 25", 2, 21);
        Check.faulty("prison cells 2 hours 24 ring", 2, 24);
        Check.faulty("prison cells 2 hours 24 ring?", 2, 24);
        Check.faulty(ROW + "cell moody 1", 2, 38);
        Check.faulty(ROW + "cell moody 10", 2, 38);
        Check.faulty(ROW + "cell deaf temper 10", 2, 44);
        Check.faulty(ROW + "cell deaf temper 1 left 10", 2, 51);
        Check.faulty(ROW + "cell deaf temper 1 left 1 right 10", 2, 59);
        Check.faulty(ROW + "quarrel 3", 2, 35);
        Check.faulty(ROW + "quarrel 2;", 2, 35);
        Check.faulty(ROW + "quarrel 1;quarrel 1;", 2, 45);
        Check.faulty(ROW + "sleeps 3 from", 2, 34);
        Check.faulty(ROW + "sleeps 0 from 4", 2, 41);
        Check.faulty(ROW + "sleeps 0 from 2 to 1", 2, 46);
        Check.faulty(ROW + "sleeps 0 from 2 to 4", 2, 46);
        Check.faulty(ROW + "soup 3 gives", 2, 32);
        Check.faulty(ROW + "soup 0 gives left 0", 2, 40);
        Check.faulty(ROW + "soup 2 gives right 0", 2, 40);
        Check.faulty(ROW + "soup 0 gives right 0", 2, 46);
        Check.faulty(ROW + "soup 0 gives right 10", 2, 46);
        Check.faulty(ROW + "soup 0 gives right 1 in 4", 2, 51);
        Check.faulty(ROW + "plan 4 0", 2, 32);
        Check.faulty(ROW + "plan 3 3", 2, 34);
    }

    private static void tooMany() {
        String cell = "cell deaf temper 1 left 1 right 1;";
        Check.faulty(ROW + cell + cell + cell + cell, 3, 27 + 3 * 34);
        Check.faulty(ROW + cell + cell + cell + "cell ?", 3, 27 + 3 * 34);
        String sleeps = "sleeps 0 from 1 to 2;".repeat(8);
        Check.sound(ROW + sleeps, 9);
        Check.faulty(ROW + sleeps + " sleeps 9", 3, 28 + 8 * 21);
        String soups = "soup 0 gives right 1 in 2;".repeat(8);
        Check.sound(ROW + soups + sleeps, 17);
        Check.faulty(ROW + soups + "soup 9", 3, 27 + 8 * 26);
    }

    private static void whatStays() {
        ConsentDoors x = new ConsentDoors();
        Check.due("fault(0) ahead of any", x.fault(0), 0);
        Check.due("fault(1) ahead of any", x.fault(1), -1);
        Check.due("fault(2)", x.fault(2), -1);
        Check.due("fault(-1)", x.fault(-1), -1);
        Check.tell(x, ROW + "plan 2 1; sleeps 1 from 0 to 2; quarrel 0;");
        Check.due("faulty", Check.tell(x, "prison cells 9 hours 9 ring; plan 9 9"), -4);
        Check.due("fault(0)", x.fault(0), 2);
        Check.due("fault(1)", x.fault(1), 34);
        Check.due("the TAPE is empty", x.count(6), 0);
        Check.due("CELLS stay", x.count(0), 3);
        Check.due("LINES stay", x.count(5), 4);
        Check.due("the PLAN stays", x.plan(2, 1), 1);
        Check.due("sleeps stay", x.sleep(1, 0), 3);
        Check.due("in place of another", Check.tell(x, "prison cells 4 hours 5 ring;"), 1);
        Check.due("fault(0) without", x.fault(0), 0);
        Check.due("fault(1) without", x.fault(1), -1);
        Check.due("no old PLAN", x.plan(2, -1), -1);
        Check.due("no old sleep", x.sleep(1, 0), 0);
        Check.due("no old quarrel", x.count(2), 0);
        Check.due("empty", x.prison(), 0);
        Check.due("there is none then", x.cell(0, 0), -2);
    }
}
