import java.util.ArrayList;
import java.util.List;
import java.util.Random;
import java.util.regex.Matcher;
import java.util.regex.Pattern;

/**
 * Term I and promises 4 and 5: texts with mistakes in them, read once more by a list of whole LINES. Of the LINES
 * that begin like the text each TOKEN strikes some out; where none is left, there is the FAULT.
 */
public final class ReadingTest {
    // In braces what a number is; what it may be is told in sound().
    private static final String[] LINES = {
        "prison cells {cells} hours {hours} ring ;", "prison cells {cells} hours {hours} row ;",
        "cell friendly temper {temper} left {left} right {right} ;", "cell friendly temper {temper} left {left} right {right} loyal ;",
        "cell pious temper {temper} left {left} right {right} ;", "cell pious temper {temper} left {left} right {right} loyal ;",
        "cell moody {moody} temper {temper} left {left} right {right} ;",
        "cell moody {moody} temper {temper} left {left} right {right} loyal ;",
        "cell deaf temper {temper} left {left} right {right} ;", "cell deaf temper {temper} left {left} right {right} loyal ;",
        "quarrel {quarrel} ;", "sleeps {cell} from {from} to {to} ;", "soup {cell} gives left {points} in {hour} ;",
        "soup {cell} gives right {points} in {hour} ;", "plan {hour} {cell} ;",
    };
    private static final Pattern TOKEN = Pattern.compile("[a-z]+|[0-9]+|[^ \n]");
    private static final String SIGNS = " \n;?A{_0129aez\t\r\u00ff\u0000";

    private final List<String> tokens = new ArrayList<>();
    private final List<Integer> places = new ArrayList<>();
    private final List<Long> quarrels = new ArrayList<>();
    private int cellsTold;
    private int sleeps;
    private int soups;
    private long cells;
    private long hours;
    private boolean ring;
    private int lines;
    private int fault;
    private int place = -1;

    public static void main(String[] args) {
        Random r = new Random(20261119);
        int[] faults = new int[4];
        for (int i = 0; i < 20000; i++) {
            String text = Model.random(r, 2 + r.nextInt(8), 1 + r.nextInt(24)).text;
            for (int n = r.nextInt(4); n > 0; n--) {
                text = spoilt(r, text);
            }
            if (text.length() <= 1580) {
                faults[compare(text)]++;
            }
        }
        for (int fault = 0; fault <= 3; fault++) {
            Check.holds("FAULT " + fault + " was seen often: " + faults[fault], faults[fault] >= 200);
        }
        Check.finish();
    }

    private static int compare(String text) {
        ReadingTest due = new ReadingTest(text);
        ConsentDoors x = new ConsentDoors();
        Check.due("prison() of " + text, Check.tell(x, text), due.fault == 0 ? due.lines : -4);
        Check.due("fault(0) of " + text, x.fault(0), due.fault);
        Check.due("fault(1) of " + text, x.fault(1), due.place);
        long[] counts = {due.cells, due.hours, due.quarrels.size(), due.sleeps, due.soups, due.lines};
        for (int what = 0; what < counts.length; what++) {
            Check.due("count(" + what + ") of " + text, x.count(what), due.fault == 0 ? counts[what] : 0);
        }
        return due.fault;
    }

    private static String spoilt(Random r, String text) {
        int at = r.nextInt(text.length() + 1);
        int end = Math.min(text.length(), at + r.nextInt(3));
        String[] all = text.split("(?<=;)");
        String line = all[r.nextInt(all.length)];
        switch (r.nextInt(8)) {
            case 0: return text.substring(0, at) + text.substring(end);
            case 1: return text.substring(0, at) + SIGNS.charAt(r.nextInt(SIGNS.length())) + text.substring(end);
            case 2: return text + line;
            case 3: return text.substring(0, at);
            case 4: return text.substring(0, at) + " " + r.nextInt(r.nextBoolean() ? 11 : 30) + text.substring(end);
            case 5: return otherNumber(r, text, at);
            case 6: return text + line.repeat(1 + r.nextInt(9));
            default: return text.replace(r.nextBoolean() ? "row" : "right", r.nextBoolean() ? "ring" : "left");
        }
    }

    private static String otherNumber(Random r, String text, int at) {
        Matcher m = Pattern.compile("[0-9]+").matcher(text);
        if (!m.find(at)) {
            return text;
        }
        String[] numbers = {"0", "1", "2", "3", "8", "9", "10", "23", "24", "25", "4294967297", "18446744073709551616", "007"};
        return text.substring(0, m.start()) + numbers[r.nextInt(numbers.length)] + text.substring(m.end());
    }

    private ReadingTest(String text) {
        Matcher m = TOKEN.matcher(text);
        while (m.find()) {
            tokens.add(m.group());
            places.add(m.start());
        }
        int end = text.length();
        for (int i = 0; i < tokens.size() && fault == 0; lines++) {
            i = line(i, end);
        }
    }

    private int line(int first, int end) {
        List<String[]> left = new ArrayList<>();
        for (String line : LINES) {
            if (line.startsWith("prison") == (lines == 0)) {
                left.add(line.split(" "));
            }
        }
        List<Long> numbers = new ArrayList<>();
        for (int n = 0; ; n++) {
            boolean over = first + n == tokens.size();
            String token = over ? "" : tokens.get(first + n);
            int at = n;
            left.removeIf(line -> at >= line.length || !fits(line[at], token));
            place = over ? end : places.get(first + n);
            if (left.isEmpty()) {
                fault = 1;
                return first + n;
            }
            if (Character.isDigit(token.charAt(0))) {
                numbers.add(new java.math.BigInteger(token).min(java.math.BigInteger.valueOf(1000)).longValue());
            }
            fault = sound(left.get(0)[n], token, n, numbers);
            if (fault != 0) {
                return first + n;
            }
            if (token.equals(";")) {
                place = -1;
                take(tokens.get(first), numbers);
                return first + n + 1;
            }
        }
    }

    private static boolean fits(String wanted, String token) {
        return wanted.startsWith("{") ? token.matches("[0-9]+") : wanted.equals(token);
    }

    /** The FAULT of a TOKEN that can stand there. */
    private int sound(String wanted, String token, int n, List<Long> numbers) {
        long number = numbers.isEmpty() ? 0 : numbers.get(numbers.size() - 1);
        switch (wanted) {
            case "{cells}": return within(number, 2, 9);
            case "{hours}": return within(number, 1, 24);
            case "ring": return numbers.get(0) == 2 ? 2 : 0;
            case "{moody}": return within(number, 2, 9);
            case "{temper}": case "{left}": case "{right}": return within(number, 0, 9);
            case "{cell}": return within(number, 0, cells - 1);
            case "{from}": case "{hour}": return within(number, 0, hours - 1);
            case "{to}": return within(number, numbers.get(1), hours - 1);
            case "{points}": return within(number, 1, 9);
            case "{quarrel}": return quarrels.contains(number) ? 2 : within(number, 0, cells - (ring ? 1 : 2));
            case "cell": return cellsTold == cells ? 3 : 0;
            case "sleeps": return sleeps == 8 ? 3 : 0;
            case "soup": return soups == 8 ? 3 : 0;
            // As the fourth TOKEN left and right stand in a soup alone.
            case "left": return n == 3 && !ring && number == 0 ? 2 : 0;
            case "right": return n == 3 && !ring && number == cells - 1 ? 2 : 0;
            default: return 0;
        }
    }

    private static int within(long number, long least, long most) {
        return number < least || number > most ? 2 : 0;
    }

    private void take(String word, List<Long> numbers) {
        switch (word) {
            case "prison":
                cells = numbers.get(0);
                hours = numbers.get(1);
                ring = tokens.get(5).equals("ring");
                break;
            case "cell": cellsTold++; break;
            case "sleeps": sleeps++; break;
            case "soup": soups++; break;
            case "quarrel": quarrels.add(numbers.get(0)); break;
            default: break;
        }
    }
}
