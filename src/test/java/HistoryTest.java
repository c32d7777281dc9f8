import java.lang.reflect.InvocationTargetException;
import java.lang.reflect.Method;
import java.util.ArrayList;
import java.util.Arrays;
import java.util.Comparator;
import java.util.List;
import java.util.Random;
import java.util.Set;

/**
 * Promises 3, 4, 14, 54 to 56 and 63 to 67 in long runs: behind whatever was called before, an object answers like a new
 * one that was told at once what stands now. So no question leaves anything behind, and no change is forgotten.
 */
public final class HistoryTest {
    private static final Set<String> CHANGES = Set.of("feed", "end", "prison", "plan", "temper", "quarrel", "vow", "keep",
            "back", "row", "write", "paste");
    private static final int STEPS = 40;
    // A step takes less than 112 calls: so an object is never called more than 512 times.
    private static final int ENOUGH = 400;

    private final Random r;
    private final ConsentDoors x = new ConsentDoors();
    private final Told[] images = new Told[3];
    private final List<int[]> slotCalls = new ArrayList<>();
    private Told now = new Told();
    private int called = 0;

    /** What stands: the head, the sleeps and soups as they were told, and what may be changed. */
    private static final class Told {
        Model m;
        String head = "";
        String rest = "";

        Told copy() {
            Told copy = new Told();
            copy.head = head;
            copy.rest = rest;
            if (m != null) {
                copy.m = new Model();
                copy.m.cells = m.cells;
                copy.m.hours = m.hours;
                copy.m.ring = m.ring;
                copy.m.kind = m.kind;
                copy.m.number = m.number;
                copy.m.like = m.like;
                copy.m.temper = m.temper.clone();
                copy.m.loyal = m.loyal.clone();
                copy.m.quarrel = m.quarrel.clone();
                copy.m.plan = m.plan.clone();
            }
            return copy;
        }

        String text() {
            if (m == null) {
                return "";
            }
            StringBuilder t = new StringBuilder(head);
            for (int c = 0; c < m.cells; c++) {
                t.append("cell ").append(m.kind[c]).append(m.number[c] > 0 ? " " + m.number[c] : "");
                t.append(" temper ").append(m.temper[c]).append(" left ").append(m.like[c][0]);
                t.append(" right ").append(m.like[c][1]).append(m.loyal[c] ? " loyal;" : ";");
            }
            for (int c = 0; c < m.cells; c++) {
                t.append(m.quarrel[c] ? "quarrel " + c + ";" : "");
            }
            t.append(rest);
            for (int h = 0; h < m.hours; h++) {
                t.append(m.plan[h] >= 0 ? "plan " + h + " " + m.plan[h] + ";" : "");
            }
            return t.toString();
        }
    }

    public static void main(String[] args) throws ReflectiveOperationException {
        Method[] asks = Arrays.stream(ConsentDoors.class.getMethods())
                .filter(m -> m.getDeclaringClass() == ConsentDoors.class && !CHANGES.contains(m.getName()))
                .sorted(Comparator.comparing(Method::getName)).toArray(Method[]::new);
        for (int run = 0; run < 600; run++) {
            new HistoryTest(new Random(run)).run(asks);
        }
        Check.finish();
    }

    private HistoryTest(Random r) {
        this.r = r;
    }

    private void run(Method[] asks) throws ReflectiveOperationException {
        tellAnother();
        for (int step = 0; step < STEPS && called < ENOUGH && slotCalls.size() < ENOUGH; step++) {
            change();
            ConsentDoors fresh = fresh();
            for (int n = 0; n < 6; n++) {
                ask(asks[r.nextInt(asks.length)], fresh);
            }
        }
    }

    private void ask(Method m, ConsentDoors fresh) throws ReflectiveOperationException {
        Object[] given = new Object[m.getParameterCount()];
        for (int i = 0; i < given.length; i++) {
            given[i] = r.nextInt(r.nextInt(8) == 0 ? 30 : 4);
        }
        // Of the text itself new objects were told another one: what its FAULT was, how many LINES it had.
        boolean ofText = m.getName().equals("fault") || m.getName().equals("count") && given[0].equals(5);
        if (!ofText) {
            called++;
            int due = answer(m, fresh, given);
            Check.due(m.getName() + Arrays.toString(given) + " of " + now.text(), answer(m, x, given), due);
        }
    }

    private static int answer(Method m, ConsentDoors x, Object[] given) throws ReflectiveOperationException {
        try {
            return (Integer) m.invoke(x, given);
        } catch (InvocationTargetException thrown) {
            Check.holds(m.getName() + Arrays.toString(given) + " threw " + thrown.getCause(), false);
            return 0;
        }
    }

    private ConsentDoors fresh() {
        ConsentDoors fresh = new ConsentDoors();
        Check.holds("what stands can be told: " + now.text(), Check.tell(fresh, now.text()) >= 0);
        for (int[] call : slotCalls) {
            call(fresh, call);
        }
        return fresh;
    }

    private static int call(ConsentDoors x, int[] call) {
        switch (call[0]) {
            case 0: return x.row(call[1], call[2], call[3]);
            case 1: return x.write(call[1], call[2], call[3]);
            default: return x.paste(call[1], call[2], call[3], call[4], call[5]);
        }
    }

    private int tell(String text) {
        called += text.length() / 20 + 4;
        return Check.tell(x, text);
    }

    private void change() {
        called += 4;
        int cells = now.m == null ? 0 : now.m.cells;
        int hours = now.m == null ? 0 : now.m.hours;
        int cell = r.nextInt(cells + 1);
        switch (r.nextInt(24)) {
            case 0: tellAnother(); break;
            case 1: Check.due("a FAULT", tell(now.text() + "prison"), -4); break;
            case 2: Check.due("a TAPE cut to nothing", cutToNothing(), 0); break;
            case 3: case 4: keep(r.nextInt(4)); break;
            case 5: case 6: back(r.nextInt(4)); break;
            case 7: case 8: case 9: slot(); break;
            case 10: case 11: case 12: case 13: temper(cell, r.nextInt(11), cell < cells); break;
            case 14: case 15: case 16: quarrel(cell, r.nextInt(2), cell < cells && now.m.beside(cell, 1) >= 0); break;
            case 17: case 18: case 19: vow(cell, r.nextInt(2), cell < cells); break;
            default: plan(r.nextInt(hours + 1), cell - 1, hours); break;
        }
    }

    private int cutToNothing() {
        Check.feed(x, "zzz");
        return x.end(0);
    }

    private void tellAnother() {
        String text = "";
        now = new Told();
        if (r.nextInt(12) != 0) {
            now.m = Model.random(r, 2 + r.nextInt(r.nextBoolean() ? 3 : 8), 1 + r.nextInt(r.nextBoolean() ? 5 : 24));
            text = now.m.text;
            for (String line : text.split("(?<=;)")) {
                now.head += line.contains("prison") ? line : "";
                now.rest += line.contains("sleeps") || line.contains("soup") ? line : "";
            }
        }
        Check.due("prison() of " + text, tell(text), now.m == null ? 0 : now.m.lines);
    }

    private void keep(int k) {
        Check.due("keep(" + k + ")", x.keep(k), k == 3 ? -2 : 0);
        if (k < 3) {
            images[k] = now.copy();
        }
    }

    private void back(int k) {
        boolean has = k < 3 && images[k] != null;
        Check.due("back(" + k + ")", x.back(k), k == 3 ? -2 : has ? 0 : -6);
        if (has) {
            now = images[k].copy();
        }
    }

    // Mostly a tale that can be sound, of up to three doors or nods.
    private void slot() {
        List<int[]> calls = new ArrayList<>();
        int slot = r.nextInt(4);
        if (r.nextInt(4) == 0) {
            calls.add(new int[] {2, slot, r.nextInt(4), r.nextInt(4), r.nextInt(4), r.nextInt(7)});
        } else {
            int doors = r.nextInt(4);
            calls.add(new int[] {0, slot, r.nextInt(4), 3 * doors});
            for (int i = 0; i < doors; i++) {
                calls.add(new int[] {1, slot, 3 * i, i + r.nextInt(2)});
                calls.add(new int[] {1, slot, 3 * i + 1, r.nextInt(3)});
                calls.add(new int[] {1, slot, 3 * i + 2, r.nextInt(2)});
            }
        }
        for (int[] call : calls) {
            call(x, call);
        }
        called += calls.size();
        slotCalls.addAll(calls);
    }

    private void temper(int cell, int n, boolean there) {
        boolean can = there && n <= 9;
        Check.due("temper(" + cell + ", " + n + ")", x.temper(cell, n), can ? now.m.temper[cell] : -2);
        if (can) {
            now.m.temper[cell] = n;
        }
    }

    private void quarrel(int cell, int is, boolean can) {
        Check.due("quarrel(" + cell + ", " + is + ")", x.quarrel(cell, is), can ? now.m.quarrel[cell] ? 1 : 0 : -2);
        if (can) {
            now.m.quarrel[cell] = is == 1;
        }
    }

    private void vow(int cell, int is, boolean can) {
        Check.due("vow(" + cell + ", " + is + ")", x.vow(cell, is), can ? now.m.loyal[cell] ? 1 : 0 : -2);
        if (can) {
            now.m.loyal[cell] = is == 1;
        }
    }

    private void plan(int hour, int cell, int hours) {
        boolean can = hour < hours;
        Check.due("plan(" + hour + ", " + cell + ")", x.plan(hour, cell), can ? now.m.plan[hour] : -2);
        if (can) {
            now.m.plan[hour] = cell;
        }
    }
}
