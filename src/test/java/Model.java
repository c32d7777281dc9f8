import java.util.ArrayList;
import java.util.HashSet;
import java.util.List;
import java.util.Map;
import java.util.Random;
import java.util.Set;
import java.util.TreeSet;

/** The document's terms in their plainest form, told over again: slow, for small prisons, apart from the class. */
final class Model {
    int cells;
    int hours;
    boolean ring;
    String[] kind;
    int[] number;
    int[] temper;
    int[][] like;
    boolean[] loyal;
    boolean[] quarrel;
    boolean[][] asleep;
    // As told: giver, SIDE of the eater, points, HOUR.
    final List<int[]> soups = new ArrayList<>();
    // Only supposed (promises 41 and 42): who likes more, the SIDE that he likes, points, HOUR.
    final List<int[]> supposed = new ArrayList<>();
    int[] plan;
    int lines;
    String text;

    static Model random(Random r, int cells, int hours) {
        Model m = new Model();
        m.cells = cells;
        m.hours = hours;
        m.ring = cells > 2 && r.nextBoolean();
        m.kind = new String[cells];
        m.number = new int[cells];
        m.temper = new int[cells];
        m.like = new int[cells][2];
        m.loyal = new boolean[cells];
        m.quarrel = new boolean[cells];
        m.asleep = new boolean[cells][hours];
        m.plan = new int[hours];
        StringBuilder t = new StringBuilder();
        m.say(t, "prison cells " + cells + " hours " + hours + (m.ring ? " ring" : " row"));
        m.tellCells(r, t);
        m.tellRest(r, t);
        m.text = t.toString();
        return m;
    }

    private void say(StringBuilder t, String line) {
        t.append(line).append(lines % 2 == 0 ? ";\n" : " ; ");
        lines++;
    }

    private void tellCells(Random r, StringBuilder t) {
        int told = r.nextInt(3) == 0 ? r.nextInt(cells + 1) : cells;
        int cold = r.nextInt(10);
        for (int c = 0; c < cells; c++) {
            kind[c] = "friendly";
            like[c][0] = 9;
            like[c][1] = 9;
            if (c < told) {
                kind[c] = new String[] {"friendly", "friendly", "pious", "moody", "deaf"}[r.nextInt(10) == 0 ? 4 : r.nextInt(4)];
                number[c] = kind[c].equals("moody") ? 2 + r.nextInt(r.nextBoolean() ? 2 : 8) : 0;
                temper[c] = r.nextInt(cold + 1);
                like[c][0] = r.nextInt(10);
                like[c][1] = r.nextInt(10);
                loyal[c] = r.nextBoolean();
                say(t, "cell " + kind[c] + (number[c] > 0 ? " " + number[c] : "") + " temper " + temper[c] + " left "
                        + like[c][0] + " right " + like[c][1] + (loyal[c] ? " loyal" : ""));
            }
        }
    }

    private void tellRest(Random r, StringBuilder t) {
        for (int c = 0; c < cells; c++) {
            if (beside(c, 1) >= 0 && r.nextInt(4) == 0) {
                quarrel[c] = true;
                say(t, "quarrel " + c);
            }
        }
        for (int i = r.nextInt(4); i > 0; i--) {
            int c = r.nextInt(cells);
            int from = r.nextInt(hours);
            int to = from + r.nextInt(hours - from);
            for (int h = from; h <= to; h++) {
                asleep[c][h] = true;
            }
            say(t, "sleeps " + c + " from " + from + " to " + to);
        }
        for (int i = r.nextInt(5); i > 0; i--) {
            int c = r.nextInt(cells);
            int side = r.nextInt(2);
            if (beside(c, side) >= 0) {
                soups.add(new int[] {c, side, 1 + r.nextInt(9), r.nextInt(hours)});
                int[] s = soups.get(soups.size() - 1);
                say(t, "soup " + c + " gives " + (side == 0 ? "left " : "right ") + s[2] + " in " + s[3]);
            }
        }
        for (int h = 0; h < hours; h++) {
            plan[h] = -1;
            if (r.nextInt(4) != 0) {
                plan[h] = r.nextInt(cells);
                say(t, "plan " + h + " " + plan[h]);
            }
        }
    }

    int beside(int c, int side) {
        if (ring) {
            return Math.floorMod(c + (side == 0 ? -1 : 1), cells);
        }
        int n = c + (side == 0 ? -1 : 1);
        return n == cells ? -1 : n;
    }

    int likes(int c, int side, int hour) {
        if (beside(c, side) < 0) {
            return 0;
        }
        int sum = like[c][side];
        for (int[] s : soups) {
            boolean eats = s[0] == beside(c, side) && s[1] != side;
            sum += eats && s[3] <= hour ? s[2] : 0;
        }
        for (int[] s : supposed) {
            sum += s[0] == c && s[1] == side && s[3] <= hour ? s[2] : 0;
        }
        return sum;
    }

    int reason(int c, int side, int hour, Set<Integer> out) {
        TreeSet<Integer> reasons = new TreeSet<>();
        int him = beside(c, side);
        if (him < 0) {
            return 1;
        }
        if (out.contains(c) && !loyal[c]) {
            reasons.add(2);
        }
        if (asleep[c][hour]) {
            reasons.add(3);
        }
        if (kind[c].equals("deaf")) {
            reasons.add(4);
        }
        if (side == 1 && quarrel[c] || side == 0 && quarrel[him]) {
            reasons.add(5);
        }
        if (kind[c].equals("pious") && (side == 0 && hour % 2 == 1 || side == 1 && hour % 2 == 0)) {
            reasons.add(6);
        }
        if (kind[c].equals("moody") && hour / number[c] * number[c] != hour) {
            reasons.add(6);
        }
        if (likes(c, side, hour) < temper[c]) {
            reasons.add(7);
        }
        return reasons.isEmpty() ? 0 : reasons.first();
    }

    boolean turnsFor(int c, int side, int hour, Set<Integer> out) {
        int man = beside(c, side);
        return man < 0 || reason(man, 1 - side, hour, out) == 0;
    }

    boolean opens(int c, int hour, Set<Integer> out) {
        return !out.contains(c) && turnsFor(c, 0, hour, out) && turnsFor(c, 1, hour, out);
    }

    /** Who is out behind each HOUR by a PLAN. */
    List<Set<Integer>> course(int[] doors) {
        List<Set<Integer>> all = new ArrayList<>();
        Set<Integer> out = new TreeSet<>();
        for (int h = 0; h < hours; h++) {
            if (doors[h] >= 0 && opens(doors[h], h, out)) {
                out = new TreeSet<>(out);
                out.add(doors[h]);
            }
            all.add(out);
        }
        return all;
    }

    /** The sets that can be out behind each HOUR. */
    List<Set<Set<Integer>>> reach() {
        List<Set<Set<Integer>>> all = new ArrayList<>();
        Set<Set<Integer>> now = new HashSet<>();
        now.add(new TreeSet<>());
        for (int h = 0; h < hours; h++) {
            Set<Set<Integer>> then = new HashSet<>(now);
            for (Set<Integer> out : now) {
                for (int c = 0; c < cells; c++) {
                    if (opens(c, h, out)) {
                        Set<Integer> more = new TreeSet<>(out);
                        more.add(c);
                        then.add(more);
                    }
                }
            }
            all.add(then);
            now = then;
        }
        return all;
    }

    int most() {
        int most = 0;
        for (Set<Integer> out : reach().get(hours - 1)) {
            most = Math.max(most, out.size());
        }
        return most;
    }

    /** The most that can be out in the end, if these are out ahead of an HOUR. */
    int mostFrom(Set<Integer> out, int hour, Map<String, Integer> known) {
        if (hour == hours) {
            return out.size();
        }
        String key = bits(out) + " " + hour;
        Integer before = known.get(key);
        if (before != null) {
            return before;
        }
        int most = mostFrom(out, hour + 1, known);
        for (int c = 0; c < cells; c++) {
            if (opens(c, hour, out)) {
                Set<Integer> more = new TreeSet<>(out);
                more.add(c);
                most = Math.max(most, mostFrom(more, hour + 1, known));
            }
        }
        known.put(key, most);
        return most;
    }

    static int bits(Set<Integer> set) {
        int bits = 0;
        for (int c : set) {
            bits |= 1 << c;
        }
        return bits;
    }
}
