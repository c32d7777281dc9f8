/** Promises 37 to 43: what would be otherwise, if something were otherwise. */
public final class OtherwiseTest {
    public static void main(String[] args) {
        mended();
        deafOrLoyal();
        soups();
        others();
        nothingStays();
        Check.finish();
    }

    private static void mended() {
        ConsentDoors x = Check.told("prison cells 4 hours 3 row; quarrel 0; quarrel 1; quarrel 2;");
        // Doors: 0 wants 0 mended; 1 wants 0 and 1; 2 wants 1 and 2; 3 wants 2.
        int[] howMany = {0, 1, 2, -1};
        int[] which = {0, 1, 5, -1};
        for (int n = 0; n < 4; n++) {
            Check.due("mends(" + n + ", 0)", x.mends(n, 0), howMany[n]);
            Check.due("mends(" + n + ", 1)", x.mends(n, 1), which[n]);
        }
        Check.due("mends(9, 0)", x.mends(9, 0), -1);
        Check.due("mends(10, 0)", x.mends(10, 0), -2);
        Check.due("mends(-1, 0)", x.mends(-1, 0), -2);
        Check.due("mends(0, 2)", x.mends(0, 2), -2);
        Check.due("mends(0, -1)", x.mends(0, -1), -2);
        x.vow(1, 1);
        Check.due("1 is loyal: mends(3, 0)", x.mends(3, 0), 3);
        Check.due("1 is loyal: mends(3, 1)", x.mends(3, 1), 7);
        ConsentDoors ring = Check.told("prison cells 9 hours 9 ring; quarrel 0; quarrel 1; quarrel 2; quarrel 3;"
                + "quarrel 4; quarrel 5; quarrel 6; quarrel 7; quarrel 8;");
        Check.due("ring: mends(1, 0)", ring.mends(1, 0), 2);
        Check.due("the least set: mends(1, 1)", ring.mends(1, 1), 3);
        Check.due("ring: mends(2, 0)", ring.mends(2, 0), 4);
        Check.due("ring: mends(2, 1)", ring.mends(2, 1), 15);
        Check.due("ring: mends(4, 1)", ring.mends(4, 1), 255);
        Check.due("ring: mends(5, 0)", ring.mends(5, 0), -1);
        ConsentDoors none = Check.told("prison cells 3 hours 3 row;");
        Check.due("no quarrels: mends(2, 0)", none.mends(2, 0), 0);
        Check.due("no quarrels: mends(2, 1)", none.mends(2, 1), 0);
        Check.due("no quarrels: mends(3, 1)", none.mends(3, 1), -1);
    }

    private static void deafOrLoyal() {
        ConsentDoors x = Check.told("prison cells 3 hours 3 row;");
        Check.due("harm(0)", x.harm(0), 0);
        Check.due("the man between: harm(1)", x.harm(1), 1);
        Check.due("harm(2)", x.harm(2), 0);
        Check.due("courted()", x.courted(), 1);
        Check.due("loyalty(0)", x.loyalty(0), 0);
        Check.due("loyalty(1)", x.loyalty(1), 1);
        Check.due("harm(3)", x.harm(3), -2);
        Check.due("harm(-1)", x.harm(-1), -2);
        Check.due("loyalty(3)", x.loyalty(3), -2);
        ConsentDoors y = Check.told("prison cells 2 hours 1 row;");
        Check.due("none harms: courted()", y.courted(), 0);
        ConsentDoors z = Check.told("prison cells 4 hours 9 row; cell deaf temper 0 left 0 right 0;"
                + "cell friendly temper 0 left 0 right 0 loyal; cell friendly temper 0 left 0 right 0 loyal;");
        Check.due("deaf already: harm(0)", z.harm(0), 0);
        Check.due("harm(1)", z.harm(1), 2);
        Check.due("harm(2)", z.harm(2), 1);
        Check.due("the first of several: courted()", z.courted(), 1);
        Check.due("loyal already: loyalty(1)", z.loyalty(1), 0);
        Check.due("no PRISON: courted()", new ConsentDoors().courted(), -2);
    }

    private static void soups() {
        ConsentDoors x = Check.told("prison cells 3 hours 3 row; cell friendly temper 5 left 9 right 3;"
                + "cell friendly temper 5 left 2 right 1; sleeps 1 from 2 to 2;");
        // 1 lacks 3 for the left one and 4 for the right one; 0 lacks 2 for 1.
        Check.due("soup(1, 0, 2, 0)", x.soup(1, 0, 2, 0), 0);
        Check.due("soup(1, 0, 3, 0)", x.soup(1, 0, 3, 0), 1);
        Check.due("soup(1, 0, 3, 1)", x.soup(1, 0, 3, 1), 1);
        Check.due("too late: soup(1, 0, 3, 2)", x.soup(1, 0, 3, 2), 0);
        Check.due("soup(0, 1, 2, 2)", x.soup(0, 1, 2, 2), 1);
        Check.due("a wall: soup(0, 0, 1, 0)", x.soup(0, 0, 1, 0), -2);
        Check.due("a wall: soup(2, 1, 1, 0)", x.soup(2, 1, 1, 0), -2);
        Check.due("soup(1, 0, 0, 0)", x.soup(1, 0, 0, 0), -2);
        Check.due("soup(1, 0, 10, 0)", x.soup(1, 0, 10, 0), -2);
        Check.due("soup(1, 0, 1, 3)", x.soup(1, 0, 1, 3), -2);
        Check.due("soup(1, 0, 1, -1)", x.soup(1, 0, 1, -1), -2);
        Check.due("soup(1, 2, 1, 0)", x.soup(1, 2, 1, 0), -2);
        Check.due("soup(3, 0, 1, 0)", x.soup(3, 0, 1, 0), -2);
        Check.due("none gives any: gift(1)", x.gift(1), -1);
        Check.due("gift(2)", x.gift(2), 1);
        Check.due("the first of several: gift(4)", x.gift(4), 1);
        x.temper(0, 9);
        Check.due("gift(3)", x.gift(3), 10);
        x.quarrel(0, 1);
        Check.due("gift(3)", x.gift(3), -1);
        Check.due("gift(4)", x.gift(4), 11);
        Check.due("gift(0)", x.gift(0), -2);
        Check.due("gift(10)", x.gift(10), -2);
        ConsentDoors full = Check.told("prison cells 2 hours 3 row; cell friendly temper 9 left 0 right 0;"
                + "cell deaf temper 0 left 0 right 0;" + "soup 1 gives left 1 in 0;".repeat(8));
        Check.due("eight soups and one: soup(0, 1, 1, 2)", full.soup(0, 1, 1, 2), 1);
        Check.due("eight soups and one: gift(1)", full.gift(1), 1);
        Check.due("SOUPS stay: count(4)", full.count(4), 8);
        // Told, 0 eats what 1 gives; supposed, it is the named man himself who likes more.
        ConsentDoors cold = Check.told("prison cells 2 hours 1 row; cell friendly temper 5 left 0 right 0;"
                + "cell deaf temper 0 left 0 right 0; soup 1 gives left 2 in 0;");
        Check.due("soup(0, 1, 2, 0)", cold.soup(0, 1, 2, 0), 0);
        Check.due("soup(0, 1, 3, 0)", cold.soup(0, 1, 3, 0), 1);
        Check.due("soup(1, 0, 9, 0)", cold.soup(1, 0, 9, 0), 0);
        Check.due("gift(3)", cold.gift(3), 1);
    }

    private static void others() {
        ConsentDoors x = Check.told("prison cells 3 hours 3 row; cell deaf temper 0 left 0 right 0;"
                + "cell friendly temper 9 left 0 right 9; quarrel 1; sleeps 2 from 0 to 2;");
        Check.due("other(0)", x.other(0), 0);
        Check.due("other(1)", x.other(1), 1);
        Check.due("other(2)", x.other(2), 1);
        Check.due("other(3)", x.other(3), 0);
        Check.due("other(4)", x.other(4), 0);
        Check.due("other(5)", x.other(5), -1000);
        Check.due("other(-1)", x.other(-1), -1000);
        ConsentDoors deaf = Check.told("prison cells 2 hours 3 row; cell deaf temper 0 left 0 right 0;"
                + "cell deaf temper 0 left 0 right 0;");
        Check.due("all friendly: other(3)", deaf.other(3), 1);
        Check.due("a row of two: other(4)", deaf.other(4), -1000);
        ConsentDoors dozing = Check.told("prison cells 2 hours 3 row; sleeps 0 from 0 to 2; sleeps 1 from 0 to 2;");
        Check.due("nobody ever slept: other(0)", dozing.other(0), 1);
        ConsentDoors row = Check.told("prison cells 3 hours 3 row;");
        Check.due("a ring: other(4)", row.other(4), -1);
        ConsentDoors ring = Check.told("prison cells 3 hours 3 ring; quarrel 2;");
        Check.due("a row: other(4)", ring.other(4), 1);
    }

    private static void nothingStays() {
        ConsentDoors x = Check.told(MenTest.THREE + "plan 0 0; quarrel 0;");
        int was = x.most(3);
        x.mends(2, 0);
        x.courted();
        x.loyalty(0);
        x.gift(9);
        for (int what = 0; what < 5; what++) {
            x.other(what);
        }
        x.drawn(5, 90, 1);
        x.chance(5, 20, 90, 1);
        Check.due("most(3) is as it was", x.most(3), was);
        Check.due("quarrels are as they were", x.count(2), 1);
        Check.due("kinds are as they were", x.cell(1, 0), 1);
        Check.due("sleeps are as they were", x.sleep(2, 0), 1);
        Check.due("loyalty is as it was", x.cell(0, 5), 0);
        Check.due("it is a row as it was", x.count(7), 0);
        Check.due("likes are as they were", x.likes(0, 1, 3), 3);
    }
}
