import java.util.function.IntUnaryOperator;
import java.util.function.ToIntFunction;

/** What every test here uses: it counts the answers that are not as due, and tells a PRISON by its text. */
final class Check {
    private static int asked = 0;
    private static int wrong = 0;
    private static String about = "";
    private static int askedBefore = -1;

    private Check() {
    }

    static void due(String call, long got, long want) {
        asked++;
        if (got != want) {
            wrong++;
            System.out.println(about + call + " answered " + got + ", due is " + want);
        }
    }

    static void holds(String what, boolean is) {
        due(what, is ? 1 : 0, 1);
    }

    /** What is asked from here on is the test of these words; it must ask something. */
    static void about(String words) {
        boolean idle = asked == askedBefore;
        askedBefore = -1;
        if (idle) {
            holds("something is asked", false);
        }
        about = words.isEmpty() ? "" : "[" + words + "] ";
        askedBefore = words.isEmpty() ? -1 : asked;
    }

    /** A number, told as # in the call, is refused by -2 if it is below the least or above the most, and else is not. */
    static void within(String call, int least, int most, IntUnaryOperator ask) {
        int[] beyond = {least - 1, most + 1, most + 32, most + 256, Integer.MIN_VALUE, Integer.MAX_VALUE};
        for (int number : beyond) {
            due(call.replace("#", "" + number), ask.applyAsInt(number), -2);
        }
        for (int number : new int[] {least, most}) {
            holds(call.replace("#", "" + number) + " is no -2", ask.applyAsInt(number) != -2);
        }
    }

    /** Without a PRISON, be there none yet, no more, or none kept, the answer is this. */
    static void withoutPrison(String call, int want, ToIntFunction<ConsentDoors> ask) {
        ConsentDoors none = new ConsentDoors();
        writeAll(none);
        due("none yet: " + call, ask.applyAsInt(none), want);
        ConsentDoors gone = told("prison cells 3 hours 4 row; plan 0 0;");
        writeAll(gone);
        gone.prison();
        due("none any more: " + call, ask.applyAsInt(gone), want);
        ConsentDoors back = new ConsentDoors();
        back.keep(0);
        tell(back, "prison cells 9 hours 24 ring;");
        writeAll(back);
        back.back(0);
        due("gone back to none: " + call, ask.applyAsInt(back), want);
    }

    private static void writeAll(ConsentDoors x) {
        for (int slot = 0; slot < 4; slot++) {
            write(x, slot, 0, 0, 0);
        }
    }

    /** Feeds a text, cut to its own length. */
    static void feed(ConsentDoors x, String text) {
        byte[] bytes = new byte[(text.length() + 19) / 20 * 20];
        for (int i = 0; i < text.length(); i++) {
            bytes[i] = (byte) text.charAt(i);
        }
        int had = x.count(6);
        for (int i = 0; i < bytes.length; i += 20) {
            x.feed(number(bytes, i), number(bytes, i + 4), number(bytes, i + 8), number(bytes, i + 12),
                    number(bytes, i + 16));
        }
        x.end(had + text.length());
    }

    private static int number(byte[] bytes, int i) {
        return (bytes[i] & 255) << 24 | (bytes[i + 1] & 255) << 16 | (bytes[i + 2] & 255) << 8 | bytes[i + 3] & 255;
    }

    static int tell(ConsentDoors x, String text) {
        feed(x, text);
        return x.prison();
    }

    static ConsentDoors told(String text) {
        ConsentDoors x = new ConsentDoors();
        if (tell(x, text) <= 0) {
            due("prison() of " + text, -4, 1);
        }
        return x;
    }

    /** A text is a PRISON of so many LINES. */
    static void sound(String text, int lines) {
        ConsentDoors x = new ConsentDoors();
        due("prison() of " + text, tell(x, text), lines);
        due("fault(0) of " + text, x.fault(0), 0);
        due("fault(1) of " + text, x.fault(1), -1);
        due("count(5) of " + text, x.count(5), lines);
    }

    /** A text has a FAULT at a place. */
    static void faulty(String text, int fault, int place) {
        ConsentDoors x = new ConsentDoors();
        due("prison() of " + text, tell(x, text), -4);
        due("fault(0) of " + text, x.fault(0), fault);
        due("fault(1) of " + text, x.fault(1), place);
        due("no PRISON of " + text, x.count(0), 0);
    }

    /** A row of numbers of the widest WIDTH. */
    static void write(ConsentDoors x, int slot, long... numbers) {
        x.row(slot, 3, numbers.length);
        for (int i = 0; i < numbers.length; i++) {
            x.write(slot, i, numbers[i]);
        }
    }

    static void finish() {
        System.out.println(wrong == 0 ? asked + " answers are as due" : wrong + " of " + asked + " answers are not as due");
        if (wrong != 0) {
            System.exit(1);
        }
    }
}
