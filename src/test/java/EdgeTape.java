/** Boundary cases of promises 1 to 5: a new object, feed, end, prison, fault. */
final class EdgeTape {
    private static final int BLANKS = 0x20202020;

    private EdgeTape() {
    }

    static void ask() {
        newObject();
        feeding();
        ending();
        prisons();
        faults();
    }

    private static void newObject() {
        Edge.of(1, "No PRISON.");
        ConsentDoors x = new ConsentDoors();
        for (int what = 0; what <= 9; what++) {
            Check.due("count(" + what + ")", x.count(what), 0);
        }
        Check.due("vain()", x.vain(), -2);
        Check.due("most(0)", x.most(0), -2);
        Check.due("cell(0, 0)", x.cell(0, 0), -2);
        Check.due("end(0)", x.end(0), 0);
        Check.due("end(1)", x.end(1), -1);
        for (int k = 0; k < 3; k++) {
            Check.due("back(" + k + ")", x.back(k), -6);
        }
        for (int slot = 0; slot < 4; slot++) {
            Check.due("write(" + slot + ", 0, 0)", x.write(slot, 0, 0), -6);
        }
        Check.tell(x, Edge.ROW);
        Check.due("another is new: count(0)", new ConsentDoors().count(0), 0);
    }

    private static void feeding() {
        Edge.of(2, "Twenty bytes come behind the TAPE, four of each number, the highest first: how many it has");
        ConsentDoors x = new ConsentDoors();
        Check.due("feed", x.feed(0x70726973, 0x6f6e2063, 0x656c6c73, 0x20392068, 0x6f757273), 20);
        Check.due("feed", x.feed(0x20323420, 0x72696e67, 0x3b20200a, 0x3b3b3b3b, 0x3b3b3b3b), 40);
        Check.due("count(6)", x.count(6), 40);
        x.end(32);
        Check.due("prison()", x.prison(), 1);
        Check.due("count(1)", x.count(1), 24);
        Check.due("feed of bytes above 127", x.feed(-1, -1, -1, -1, -1), 20);
        Check.due("prison()", x.prison(), -4);
        Check.due("fault(1)", x.fault(1), 0);
        Edge.of(2, "NONE, and none come, if it would have more than 1,600.");
        ConsentDoors y = new ConsentDoors();
        Check.feed(y, Edge.ROW);
        y.end(20);
        for (int n = 40; n <= 1580; n += 20) {
            Check.due("feed up to " + n, n == 40 ? y.feed(0x20342072, 0x6f773b20, BLANKS, BLANKS, BLANKS) : blank(y), n);
        }
        Check.due("feed up to 1,600", blank(y), 1600);
        Check.due("feed above 1,600", y.feed(-1, -1, -1, -1, -1), -1);
        Check.due("none come: count(6)", y.count(6), 1600);
        for (int n = 1599; n >= 1581; n--) {
            y.end(n);
            Check.due("feed above 1,600 of " + n, y.feed(-1, -1, -1, -1, -1), -1);
            Check.due("none come: count(6)", y.count(6), n);
        }
        y.end(1580);
        Check.due("feed from 1,580", blank(y), 1600);
        y.feed(-1, -1, -1, -1, -1);
        Check.due("none come: prison()", y.prison(), 1);
        Check.due("empty then: feed", blank(y), 20);
    }

    private static int blank(ConsentDoors x) {
        return x.feed(BLANKS, BLANKS, BLANKS, BLANKS, BLANKS);
    }

    private static void ending() {
        Edge.of(3, "The TAPE has its first n bytes alone: n");
        ConsentDoors x = new ConsentDoors();
        Check.feed(x, Edge.ROW + "plan 0 12345");
        Check.due("end(35)", x.end(35), 35);
        Check.due("end(35) once more", x.end(35), 35);
        Check.due("count(6)", x.count(6), 35);
        Check.feed(x, ";");
        Check.due("plan 0 1 alone", x.prison(), 2);
        Check.due("plan(0, -1)", x.plan(0, -1), 1);
        Check.feed(x, "?");
        Check.due("end(0)", x.end(0), 0);
        Check.due("none are left", x.prison(), 0);
        ConsentDoors full = new ConsentDoors();
        for (int i = 0; i < 80; i++) {
            blank(full);
        }
        Check.due("end(1600)", full.end(1600), 1600);
        Check.due("end(1601)", full.end(1601), -1);
        Edge.of(3, "NONE, and nothing happens, if it has not so many, or n is below 0.");
        ConsentDoors y = new ConsentDoors();
        Check.due("of none: end(1)", y.end(1), -1);
        Check.due("of none: end(-1)", y.end(-1), -1);
        Check.feed(y, Edge.ROW);
        for (int n : new int[] {28, 1600, Integer.MAX_VALUE, -1, -27, Integer.MIN_VALUE}) {
            Check.due("end(" + n + ")", y.end(n), -1);
            Check.due("count(6)", y.count(6), 27);
        }
        Check.due("prison()", y.prison(), 1);
        Check.feed(y, Edge.ROW);
        y.end(20);
        Check.due("what is cut off is gone: end(21)", y.end(21), -1);
    }

    private static void prisons() {
        Edge.of(4, "The TAPE (empty then) is the PRISON (in place of another): how many LINES (0: there is none then).");
        ConsentDoors x = new ConsentDoors();
        Check.due("of no bytes", x.prison(), 0);
        Check.due("of blanks", Check.tell(x, " \n "), 0);
        Check.due("of 4 LINES", Check.tell(x, "prison cells 9 hours 24 ring; quarrel 8; sleeps 8 from 0 to 23; plan 23 8;"), 4);
        Check.due("the TAPE is empty", x.count(6), 0);
        Check.due("LINES", x.count(5), 4);
        Check.due("of 1 LINE", Check.tell(x, Edge.ROW), 1);
        int[] due = {3, 4, 0, 0, 0, 1, 0, 0, 0, 0};
        for (int what = 0; what <= 9; what++) {
            Check.due("of another: count(" + what + ")", x.count(what), due[what]);
        }
        Check.due("of another: sleep(0, 0)", x.sleep(0, 0), 0);
        Check.due("of another: plan(3, -1)", x.plan(3, -1), -1);
        Check.tell(x, "prison cells 9 hours 24 ring;");
        Check.due("no old PLAN: plan(23, -1)", x.plan(23, -1), -1);
        Check.due("no old sleep: sleep(8, 0)", x.sleep(8, 0), 0);
        Check.due("blanks alone", Check.tell(x, "\n"), 0);
        Check.due("none then: count(5)", x.count(5), 0);
        Check.due("none then: vain()", x.vain(), -2);
        Check.due("none then: cell(0, 0)", x.cell(0, 0), -2);
        nothingOld();
        Edge.of(4, "-4: a FAULT (the TAPE is empty, all else stays).");
        ConsentDoors y = Check.told(Edge.ROW + "cell pious temper 1 left 2 right 3 loyal; quarrel 0; sleeps 1 from 1 to 2;"
                + "soup 1 gives left 4 in 1; plan 3 2;");
        y.keep(1);
        Check.write(y, 2, 3, 2, 1);
        y.temper(0, 5);
        y.plan(2, 1);
        for (String text : new String[] {"?", "prison cells 9 hours 9 ring; plan 0 9;", "prison cells 9 hours 9 ring; quarrel 1"}) {
            Check.due("prison() of " + text, Check.tell(y, text), -4);
            int[] counts = {3, 4, 1, 1, 1, 6, 0, 0, 2, 1};
            for (int what = 0; what <= 9; what++) {
                Check.due("count(" + what + ")", y.count(what), counts[what]);
            }
            int[] man = {1, 0, 5, 2, 3, 1, 0};
            for (int what = 0; what <= 6; what++) {
                Check.due("cell(0, " + what + ")", y.cell(0, what), man[what]);
            }
            Check.due("likes(0, 1, 1)", y.likes(0, 1, 1), 7);
            Check.due("sleep(1, 0)", y.sleep(1, 0), 2);
            Check.due("plan(2, 1)", y.plan(2, 1), 1);
            Check.due("opens(3)", y.opens(3), 2);
            Check.due("odd(2)", y.odd(2), -1);
        }
        Check.due("an IMAGE stays", y.back(1), 0);
        Check.due("an IMAGE stays: cell(0, 2)", y.cell(0, 2), 1);
        ConsentDoors none = new ConsentDoors();
        Check.due("prison() of ?", Check.tell(none, "?"), -4);
        Check.due("none stays: count(5)", none.count(5), 0);
        Check.due("none stays: vain()", none.vain(), -2);
    }

    // What was told before, sound or with a FAULT, leaves nothing behind.
    private static void nothingOld() {
        String full = "prison cells 3 hours 4 ring; cell moody 2 temper 5 left 6 right 7 loyal; cell pious temper 8 left 7 right 6 loyal;"
                + "cell deaf temper 1 left 2 right 3 loyal; quarrel 0; quarrel 2; sleeps 0 from 0 to 1; sleeps 1 from 2 to 3;"
                + "sleeps 2 from 3 to 3; soup 0 gives left 1 in 0; soup 1 gives left 2 in 1; soup 2 gives left 3 in 2;"
                + "plan 0 0; plan 1 2; plan 2 1; plan 3 0;";
        for (String before : new String[] {full, full + "?", full + "cell deaf temper 0 left 0 right 0;"}) {
            ConsentDoors x = new ConsentDoors();
            Check.tell(x, before);
            x.best(0);
            Check.due("another: prison()", Check.tell(x, Edge.ROW), 1);
            likeNew(x, Check.told(Edge.ROW));
            Check.tell(x, before);
            Check.due("none: prison()", x.prison(), 0);
            for (int what = 0; what <= 9; what++) {
                Check.due("none: count(" + what + ")", x.count(what), 0);
            }
            Check.due("another behind none: prison()", Check.tell(x, Edge.ROW), 1);
            likeNew(x, Check.told(Edge.ROW));
        }
        String long24 = "prison cells 9 hours 24 ring;" + Edge.LOYAL.repeat(9);
        for (int hour = 0; hour < 9; hour++) {
            long24 += "plan " + hour + " " + hour + ";";
        }
        for (int hours = 1; hours < 9; hours++) {
            String text = "prison cells 9 hours " + hours + " ring;";
            ConsentDoors x = Check.told(long24);
            Check.tell(x, text);
            likeNew(x, Check.told(text));
            Check.due("of " + hours + " HOURS: together(511)", x.together(511), -1);
            Check.due("of " + hours + " HOURS: soonest(9)", x.soonest(9), -1);
        }
        java.util.Random r = new java.util.Random(4);
        for (int i = 0; i < 60; i++) {
            ConsentDoors x = new ConsentDoors();
            Check.tell(x, Model.random(r, 2 + r.nextInt(8), 1 + r.nextInt(24)).text + (i % 2 == 0 ? "" : "quarrel"));
            x.astray();
            String text = Model.random(r, 2 + r.nextInt(8), 1 + r.nextInt(24)).text;
            Check.tell(x, text);
            likeNew(x, Check.told(text));
        }
    }

    private static void likeNew(ConsentDoors x, ConsentDoors fresh) {
        for (int what = 0; what <= 9; what++) {
            Check.due("count(" + what + ")", x.count(what), fresh.count(what));
        }
        for (int cell = 0; cell < fresh.count(0); cell++) {
            for (int what = 0; what <= 6; what++) {
                Check.due("cell(" + cell + ", " + what + ")", x.cell(cell, what), fresh.cell(cell, what));
            }
            Check.due("sleep(" + cell + ", 0)", x.sleep(cell, 0), fresh.sleep(cell, 0));
            Check.due("hours(" + cell + ", 0)", x.hours(cell, 0), fresh.hours(cell, 0));
            Check.due("hours(" + cell + ", 1)", x.hours(cell, 1), fresh.hours(cell, 1));
            Check.due("free(" + cell + ")", x.free(cell), fresh.free(cell));
            Check.due("turned(" + cell + ")", x.turned(cell), fresh.turned(cell));
            Check.due("when(" + cell + ")", x.when(cell), fresh.when(cell));
            int last = fresh.count(1) - 1;
            Check.due("likes(" + cell + ", 0, " + last + ")", x.likes(cell, 0, last), fresh.likes(cell, 0, last));
            Check.due("likes(" + cell + ", 1, " + last + ")", x.likes(cell, 1, last), fresh.likes(cell, 1, last));
        }
        Check.due("vain()", x.vain(), fresh.vain());
        Check.due("astray()", x.astray(), fresh.astray());
        Check.due("idle()", x.idle(), fresh.idle());
        Check.due("locked()", x.locked(), fresh.locked());
        Check.due("courted()", x.courted(), fresh.courted());
        for (int hour = 0; hour < fresh.count(1); hour++) {
            Check.due("most(" + hour + ")", x.most(hour), fresh.most(hour));
            Check.due("best(" + hour + ")", x.best(hour), fresh.best(hour));
            Check.due("out(" + hour + ")", x.out(hour), fresh.out(hour));
            Check.due("plan(" + hour + ", -1)", x.plan(hour, -1), fresh.plan(hour, -1));
        }
    }

    private static void faults() {
        Edge.of(5, "Of the latest prison(), what 0: its FAULT, 0 without, 1: its place (NONE without).");
        ConsentDoors x = new ConsentDoors();
        String[] texts = {"prison ?", Edge.ROW, "prison cells 99", "", Edge.ROW + Edge.PLAIN.repeat(4), " ", "?"};
        int[] fault = {1, 0, 2, 0, 3, 0, 1};
        int[] place = {7, -1, 13, -1, 27 + 3 * 38, -1, 0};
        for (int i = 0; i < texts.length; i++) {
            Check.tell(x, texts[i]);
            Check.due("fault(0) of " + texts[i], x.fault(0), fault[i]);
            Check.due("fault(1) of " + texts[i], x.fault(1), place[i]);
            Check.feed(x, "zzz");
            x.end(0);
            x.keep(0);
            x.back(0);
            Check.due("it is still the latest: fault(0)", x.fault(0), fault[i]);
            Check.due("it is still the latest: fault(1)", x.fault(1), place[i]);
        }
        Edge.of(5, "NONE for another what, and ahead of any (what 1).");
        for (int what : new int[] {-1, 2, 3, Integer.MAX_VALUE, Integer.MIN_VALUE}) {
            Check.due("fault(" + what + ")", x.fault(what), -1);
            Check.due("ahead of any: fault(" + what + ")", new ConsentDoors().fault(what), -1);
        }
        Check.due("ahead of any: fault(1)", new ConsentDoors().fault(1), -1);
        Check.due("ahead of any: fault(0)", new ConsentDoors().fault(0), 0);
    }
}
