/** Promises 54 to 56, 63 and 64: what is otherwise from now on, and IMAGES gone back to. */
public final class ChangeTest {
    public static void main(String[] args) {
        tempers();
        quarrels();
        vows();
        images();
        Check.finish();
    }

    private static void tempers() {
        ConsentDoors x = Check.told(MenTest.THREE + "plan 2 1;");
        Check.due("opens(2)", x.opens(2), 1);
        Check.due("temper(0, 4)", x.temper(0, 4), 3);
        Check.due("cell(0, 2)", x.cell(0, 2), 4);
        Check.due("opens(2) no more", x.opens(2), -1);
        Check.due("could(1)", x.could(1), 0);
        Check.due("most(2)", x.most(2), 2);
        Check.due("temper(0, 0)", x.temper(0, 0), 4);
        Check.due("could(1)", x.could(1), 5);
        Check.due("temper(0, 10)", x.temper(0, 10), -2);
        Check.due("temper(0, -1)", x.temper(0, -1), -2);
        Check.due("temper(3, 0)", x.temper(3, 0), -2);
        Check.due("temper(-1, 0)", x.temper(-1, 0), -2);
        Check.due("temper(0, 9)", x.temper(0, 9), 0);
    }

    private static void quarrels() {
        ConsentDoors x = Check.told("prison cells 3 hours 2 row; plan 0 0;");
        Check.due("quarrel(0, 1)", x.quarrel(0, 1), 0);
        Check.due("opens(0)", x.opens(0), -1);
        Check.due("why(0)", x.why(0), 4);
        Check.due("because(0, 1)", x.because(0, 1), 5);
        Check.due("locked()", x.locked(), 3);
        Check.due("quarrel(0, 1) again", x.quarrel(0, 1), 1);
        Check.due("count(2)", x.count(2), 1);
        Check.due("quarrel(0, 0)", x.quarrel(0, 0), 1);
        Check.due("opens(0) again", x.opens(0), 0);
        Check.due("a wall: quarrel(2, 0)", x.quarrel(2, 0), -2);
        Check.due("quarrel(0, 2)", x.quarrel(0, 2), -2);
        Check.due("quarrel(0, -1)", x.quarrel(0, -1), -2);
        Check.due("quarrel(3, 0)", x.quarrel(3, 0), -2);
        ConsentDoors ring = Check.told("prison cells 3 hours 2 ring;");
        Check.due("round: quarrel(2, 1)", ring.quarrel(2, 1), 0);
        Check.due("round: reason(0, 0, 0)", ring.reason(0, 0, 0), 5);
    }

    private static void vows() {
        ConsentDoors x = Check.told("prison cells 2 hours 2 row; plan 0 0; plan 1 1;");
        Check.due("out(1)", x.out(1), 1);
        Check.due("vow(0, 1)", x.vow(0, 1), 0);
        Check.due("out(1)", x.out(1), 3);
        Check.due("most(1)", x.most(1), 2);
        Check.due("vow(0, 0)", x.vow(0, 0), 1);
        Check.due("cell(0, 5)", x.cell(0, 5), 0);
        Check.due("out(1)", x.out(1), 1);
        Check.due("vow(0, 2)", x.vow(0, 2), -2);
        Check.due("vow(2, 0)", x.vow(2, 0), -2);
        Check.due("vow(-1, 0)", x.vow(-1, 0), -2);
    }

    private static void images() {
        ConsentDoors x = new ConsentDoors();
        Check.due("nothing: back(2)", x.back(2), -6);
        Check.due("keep(0) without a PRISON", x.keep(0), 0);
        Check.tell(x, MenTest.THREE + "quarrel 1; plan 0 0; plan 1 2;");
        Check.due("keep(1)", x.keep(1), 0);
        x.plan(0, 2);
        x.temper(1, 9);
        x.vow(0, 1);
        x.quarrel(1, 0);
        x.row(0, 0, 3);
        Check.due("keep(2)", x.keep(2), 0);
        Check.tell(x, "prison cells 9 hours 24 ring;");
        Check.feed(x, "some bytes");
        Check.due("back(1)", x.back(1), 0);
        Check.due("count(0)", x.count(0), 3);
        Check.due("count(5)", x.count(5), 9);
        Check.due("count(4)", x.count(4), 1);
        Check.due("the TAPE stays: count(6)", x.count(6), 10);
        Check.due("SLOTS stay: count(9)", x.count(9), 1);
        Check.due("the PLAN: opens(0)", x.opens(0), 0);
        Check.due("plan(1, 2)", x.plan(1, 2), 2);
        Check.due("temper", x.cell(1, 2), 0);
        Check.due("quarrel: reason(1, 1, 1)", x.reason(1, 1, 1), 5);
        Check.due("soup: likes(0, 1, 3)", x.likes(0, 1, 3), 3);
        x.temper(0, 0);
        Check.due("back(1) once more", x.back(1), 0);
        Check.due("an IMAGE stays as it is: temper", x.cell(0, 2), 3);
        Check.due("back(2)", x.back(2), 0);
        Check.due("temper of the other one", x.cell(1, 2), 9);
        Check.due("loyal of the other one", x.cell(0, 5), 1);
        Check.due("door 1 alone: most(3) of the other one", x.most(3), 1);
        Check.due("back(0)", x.back(0), 0);
        Check.due("no PRISON", x.count(0), 0);
        Check.due("no PRISON: most(0)", x.most(0), -2);
        Check.due("keep(3)", x.keep(3), -2);
        Check.due("keep(-1)", x.keep(-1), -2);
        Check.due("back(3)", x.back(3), -2);
        Check.due("back(-1)", x.back(-1), -2);
    }
}
