/** What every test here uses: it counts the answers that are not as due, and tells a PRISON by its text. */
final class Check {
    private static int asked = 0;
    private static int wrong = 0;

    private Check() {
    }

    static void due(String call, long got, long want) {
        asked++;
        if (got != want) {
            wrong++;
            System.out.println(call + " answered " + got + ", due is " + want);
        }
    }

    static void holds(String what, boolean is) {
        due(what, is ? 1 : 0, 1);
    }

    /** Feeds a text, cut to its own length. */
    static void feed(ConsentDoors x, String text) {
        byte[] bytes = new byte[(text.length() + 19) / 20 * 20];
        for (int i = 0; i < text.length(); i++) {
            bytes[i] = (byte) text.charAt(i);
        }
        int had = x.count(6);
        for (int i = 0; i < bytes.length; i += 20) {
            x.feed(number(bytes, i), number(bytes, i + 4), number(bytes, i + 8), number(bytes, i + 12),
                    number(bytes, i + 16));
        }
        x.end(had + text.length());
    }

    private static int number(byte[] bytes, int i) {
        return (bytes[i] & 255) << 24 | (bytes[i + 1] & 255) << 16 | (bytes[i + 2] & 255) << 8 | bytes[i + 3] & 255;
    }

    static int tell(ConsentDoors x, String text) {
        feed(x, text);
        return x.prison();
    }

    static ConsentDoors told(String text) {
        ConsentDoors x = new ConsentDoors();
        if (tell(x, text) <= 0) {
            due("prison() of " + text, -4, 1);
        }
        return x;
    }

    /** A row of numbers of the widest WIDTH. */
    static void write(ConsentDoors x, int slot, long... numbers) {
        x.row(slot, 3, numbers.length);
        for (int i = 0; i < numbers.length; i++) {
            x.write(slot, i, numbers[i]);
        }
    }

    static void finish() {
        System.out.println(wrong == 0 ? asked + " answers are as due" : wrong + " of " + asked + " answers are not as due");
        if (wrong != 0) {
            System.exit(1);
        }
    }
}
