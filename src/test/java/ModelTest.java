import java.util.HashMap;
import java.util.HashSet;
import java.util.List;
import java.util.Map;
import java.util.Random;
import java.util.Set;

/** Random prisons: the class's answers against those of the plain model (promises 4 to 59). */
public final class ModelTest {
    private static final Set<Integer> NOBODY = Set.of();

    public static void main(String[] args) {
        Random r = new Random(20261118);
        for (int i = 0; i < 1500; i++) {
            compare(Model.random(r, 2 + r.nextInt(4), 1 + r.nextInt(5)), r, true);
        }
        for (int i = 0; i < 120; i++) {
            compare(Model.random(r, 6 + r.nextInt(4), 1 + r.nextInt(24)), r, false);
        }
        Check.finish();
    }

    private static ConsentDoors told(Model m) {
        ConsentDoors x = new ConsentDoors();
        Check.due("prison() of " + m.text, Check.tell(x, m.text), m.lines);
        return x;
    }

    private static void compare(Model m, Random r, boolean small) {
        men(m, told(m));
        hours(m, told(m));
        drawn(m, told(m), r);
        doors(m, told(m));
        course(m, told(m));
        anyPlan(m, told(m));
        otherwise(m, told(m));
        tale(m, told(m), r);
        if (small) {
            everyPlan(m, told(m));
        } else {
            bestAndAstray(m, told(m));
        }
    }

    private static void due(Model m, String call, int got, int want) {
        if (got != want) {
            System.out.println(m.text);
        }
        Check.due(call, got, want);
    }

    private static void men(Model m, ConsentDoors x) {
        for (int c = 0; c < m.cells; c++) {
            for (int side = 0; side < 2; side++) {
                int bits = 0;
                for (int h = 0; h < m.hours; h++) {
                    int reason = m.reason(c, side, h, NOBODY);
                    bits |= reason == 0 ? 1 << h : 0;
                    if (h % 5 == 0) {
                        due(m, "reason", x.reason(c, side, h), reason);
                        due(m, "likes", x.likes(c, side, h), m.likes(c, side, h));
                    }
                }
                due(m, "hours", x.hours(c, side), bits);
                due(m, "beside", x.beside(c, side), m.beside(c, side));
            }
        }
    }

    private static void hours(Model m, ConsentDoors x) {
        int busiest = 0;
        int sleepiest = 0;
        int[] open = new int[m.hours];
        int[] asleep = new int[m.hours];
        for (int h = 0; h < m.hours; h++) {
            int pairs = 0;
            for (int c = 0; c < m.cells; c++) {
                int next = m.beside(c, 1);
                boolean pair = next >= 0 && m.reason(c, 1, h, NOBODY) == 0 && m.reason(next, 0, h, NOBODY) == 0;
                pairs += pair ? 1 : 0;
                open[h] += m.opens(c, h, NOBODY) ? 1 : 0;
                asleep[h] += m.asleep[c][h] ? 1 : 0;
            }
            due(m, "pairs", x.pairs(h), pairs);
            due(m, "asleep", x.asleep(h), asleep[h]);
            busiest = open[h] > open[busiest] ? h : busiest;
            sleepiest = asleep[h] > asleep[sleepiest] ? h : sleepiest;
        }
        due(m, "busy(0)", x.busy(0), busiest);
        due(m, "busy(1)", x.busy(1), open[busiest]);
        due(m, "sleep(.., 1)", x.sleep(0, 1), sleepiest);
        for (int c = 0; c < m.cells; c++) {
            int slept = 0;
            for (int h = 0; h < m.hours; h++) {
                slept += m.asleep[c][h] ? 1 : 0;
            }
            due(m, "sleep(.., 0)", x.sleep(c, 0), slept);
            longest(m, x, c);
            for (int d = 0; d < m.cells; d++) {
                due(m, "common", x.common(c, d), c == d ? -2 : Integer.bitCount(could(m, c) & could(m, d)));
            }
        }
    }

    private static void longest(Model m, ConsentDoors x, int c) {
        int most = 0;
        int first = -1;
        for (int from = 0; from < m.hours; from++) {
            int n = 0;
            while (from + n < m.hours && m.opens(c, from + n, NOBODY)) {
                n++;
            }
            first = n > most ? from : first;
            most = Math.max(most, n);
        }
        due(m, "longest(.., 0)", x.longest(c, 0), most);
        due(m, "longest(.., 1)", x.longest(c, 1), first);
    }

    private static void drawn(Model m, ConsentDoors x, Random r) {
        int seed = r.nextInt(2000000001);
        int n = 1 + r.nextInt(4);
        int odds = r.nextInt(101);
        int[] free = new int[m.cells];
        boolean[][] told = m.asleep;
        for (int i = 0; i < n; i++) {
            m.asleep = new boolean[m.cells][m.hours];
            int drowsy = 0;
            long state = seed + i;
            for (int h = 0; h < m.hours; h++) {
                boolean some = false;
                for (int c = 0; c < m.cells; c++) {
                    state = (1103515245L * state + 12345L) % 2147483648L;
                    boolean by = state / 65536L % 100L < odds;
                    m.asleep[c][h] = by || told[c][h];
                    some |= by && !told[c][h];
                }
                drowsy += some ? 1 : 0;
            }
            int out = Model.bits(m.course(m.plan).get(m.hours - 1));
            for (int c = 0; c < m.cells; c++) {
                free[c] += out >> c & 1;
            }
            if (i == 0) {
                due(m, "drawn(.., 0)", x.drawn(seed, odds, 0), out);
                due(m, "drawn(.., 1)", x.drawn(seed, odds, 1), m.most());
                due(m, "drawn(.., 2)", x.drawn(seed, odds, 2), drowsy);
            }
        }
        m.asleep = told;
        for (int c = 0; c < m.cells; c++) {
            due(m, "chance", x.chance(seed, n, odds, c), free[c]);
        }
    }

    private static int could(Model m, int c) {
        int bits = 0;
        for (int h = 0; h < m.hours; h++) {
            bits |= m.opens(c, h, NOBODY) ? 1 << h : 0;
        }
        return bits;
    }

    private static void doors(Model m, ConsentDoors x) {
        for (int c = 0; c < m.cells; c++) {
            int could = could(m, c);
            due(m, "could", x.could(c), could);
            due(m, "latest", x.latest(c), could == 0 ? -1 : 31 - Integer.numberOfLeadingZeros(could));
            due(m, "earliest", x.earliest(c), could == 0 ? -1 : Integer.numberOfTrailingZeros(could));
            due(m, "wanted", x.wanted(c), wanted(m, c));
            int cheapest = 1000;
            int when = -1;
            for (int h = 0; h < m.hours; h++) {
                int price = price(m, c, h);
                due(m, "flatter", x.flatter(c, h), price);
                if (price >= 0 && price < cheapest) {
                    cheapest = price;
                    when = h;
                }
            }
            due(m, "when", x.when(c), when);
        }
    }

    private static int wanted(Model m, int c) {
        int wanted = 0;
        for (int h = 0; h < m.hours; h++) {
            for (int side = 0; side < 2; side++) {
                int door = m.beside(c, side);
                if (door >= 0 && !m.turnsFor(door, 1 - side, h, NOBODY) && m.turnsFor(door, side, h, NOBODY)) {
                    wanted++;
                }
            }
        }
        return wanted;
    }

    // By trying: raise the two likings until the door opens.
    private static int price(Model m, int c, int h) {
        int left = m.beside(c, 0);
        int right = m.beside(c, 1);
        int best = -1;
        for (int a = 0; a <= (left < 0 ? 0 : 9); a++) {
            for (int b = 0; b <= (right < 0 ? 0 : 9); b++) {
                add(m, left, 1, a);
                add(m, right, 0, b);
                if (m.opens(c, h, NOBODY) && (best < 0 || a + b < best)) {
                    best = a + b;
                }
                add(m, left, 1, -a);
                add(m, right, 0, -b);
            }
        }
        return best;
    }

    private static void add(Model m, int man, int side, int points) {
        if (man >= 0) {
            m.like[man][side] += points;
        }
    }

    private static void course(Model m, ConsentDoors x) {
        List<Set<Integer>> course = m.course(m.plan);
        Set<Integer> ahead = NOBODY;
        int vain = 0;
        int idle = 0;
        int[] turned = new int[m.cells];
        for (int h = 0; h < m.hours; h++) {
            int c = m.plan[h];
            boolean opens = c >= 0 && m.opens(c, h, ahead);
            due(m, "opens", x.opens(h), opens ? c : -1);
            due(m, "out", x.out(h), Model.bits(course.get(h)));
            due(m, "why", x.why(h), why(m, c, h, ahead));
            int open = 0;
            for (int d = 0; d < m.cells; d++) {
                open |= m.opens(d, h, ahead) ? 1 << d : 0;
            }
            due(m, "doors", x.doors(h), open);
            for (int side = 0; side < 2; side++) {
                int man = c < 0 ? -1 : m.beside(c, side);
                due(m, "wrist", x.wrist(h, side), opens ? man : -1);
                int because = man < 0 ? 1 : m.reason(man, 1 - side, h, ahead);
                due(m, "because", x.because(h, side), c < 0 || ahead.contains(c) ? -1 : because);
                if (opens && man >= 0) {
                    turned[man]++;
                }
            }
            vain += c >= 0 && !opens ? 1 : 0;
            idle += open != 0 && !opens ? 1 : 0;
            ahead = course.get(h);
        }
        due(m, "vain", x.vain(), vain);
        due(m, "idle", x.idle(), idle);
        for (int c = 0; c < m.cells; c++) {
            due(m, "turned", x.turned(c), turned[c]);
        }
    }

    private static int why(Model m, int c, int h, Set<Integer> ahead) {
        if (c < 0) {
            return 1;
        }
        if (ahead.contains(c)) {
            return 2;
        }
        return !m.turnsFor(c, 0, h, ahead) ? 3 : !m.turnsFor(c, 1, h, ahead) ? 4 : 0;
    }

    private static void anyPlan(Model m, ConsentDoors x) {
        List<Set<Set<Integer>>> reach = m.reach();
        int[] together = new int[1 << m.cells];
        java.util.Arrays.fill(together, -1);
        int before = 0;
        for (int h = 0; h < m.hours; h++) {
            int most = 0;
            for (Set<Integer> out : reach.get(h)) {
                most = Math.max(most, out.size());
                int bits = Model.bits(out);
                for (int sub = bits; ; sub = sub - 1 & bits) {
                    together[sub] = together[sub] < 0 ? h : together[sub];
                    if (sub == 0) {
                        break;
                    }
                }
            }
            due(m, "most", x.most(h), most);
            due(m, "sets", x.sets(h), reach.get(h).size());
            for (int n = before + 1; n <= most; n++) {
                due(m, "soonest", x.soonest(n), h);
            }
            before = most;
        }
        int locked = 0;
        for (int c = 0; c < m.cells; c++) {
            int others = -1;
            for (Set<Integer> out : reach.get(m.hours - 1)) {
                others = out.contains(c) ? Math.max(others, out.size() - 1) : others;
            }
            due(m, "others", x.others(c), others);
            locked |= others < 0 ? 1 << c : 0;
        }
        due(m, "locked", x.locked(), locked);
        ConsentDoors fresh = x;
        for (int set = 0; set < 1 << m.cells; set++) {
            fresh = set % 256 == 0 ? told(m) : fresh;
            due(m, "together", fresh.together(set), together[set]);
        }
    }

    private static void otherwise(Model m, ConsentDoors x) {
        int base = m.most();
        int worst = -1;
        int courted = -1;
        for (int c = 0; c < m.cells; c++) {
            String kind = m.kind[c];
            m.kind[c] = "deaf";
            int harm = base - m.most();
            m.kind[c] = kind;
            due(m, "harm", x.harm(c), harm);
            courted = harm > worst ? c : courted;
            worst = Math.max(worst, harm);
            boolean loyal = m.loyal[c];
            m.loyal[c] = true;
            due(m, "loyalty", x.loyalty(c), m.most() - base);
            m.loyal[c] = loyal;
        }
        due(m, "courted", x.courted(), courted);
        soups(m, x, base);
        quarrels(m, x);
        due(m, "other(0)", x.other(0), ifNobodySlept(m) - base);
        due(m, "other(1)", x.other(1), ifAllLiked(m) - base);
        due(m, "other(2)", x.other(2), ifAllMended(m) - base);
        due(m, "other(3)", x.other(3), ifAllFriendly(m) - base);
        due(m, "other(4)", x.other(4), m.cells == 2 ? -1000 : ifTurned(m) - base);
    }

    private static int ifNobodySlept(Model m) {
        boolean[][] was = m.asleep;
        m.asleep = new boolean[m.cells][m.hours];
        int most = m.most();
        m.asleep = was;
        return most;
    }

    private static int ifAllLiked(Model m) {
        int[] was = m.temper;
        m.temper = new int[m.cells];
        int most = m.most();
        m.temper = was;
        return most;
    }

    private static int ifAllMended(Model m) {
        boolean[] was = m.quarrel;
        m.quarrel = new boolean[m.cells];
        int most = m.most();
        m.quarrel = was;
        return most;
    }

    private static int ifAllFriendly(Model m) {
        String[] was = m.kind;
        m.kind = new String[m.cells];
        java.util.Arrays.fill(m.kind, "friendly");
        int most = m.most();
        m.kind = was;
        return most;
    }

    private static int ifTurned(Model m) {
        m.ring = !m.ring;
        int most = m.most();
        m.ring = !m.ring;
        return most;
    }

    private static void soups(Model m, ConsentDoors x, int base) {
        int n = 1 + m.lines % 9;
        int best = 0;
        int gift = -1;
        for (int c = 0; c < m.cells; c++) {
            for (int side = 0; side < 2; side++) {
                if (m.beside(c, side) < 0) {
                    due(m, "soup", x.soup(c, side, n, 0), -2);
                    continue;
                }
                int gain = withSoup(m, c, side, n, 0) - base;
                due(m, "soup", x.soup(c, side, n, 0), gain);
                due(m, "soup", x.soup(c, side, n, m.hours / 2), withSoup(m, c, side, n, m.hours / 2) - base);
                gift = gain > best ? 10 * c + side : gift;
                best = Math.max(best, gain);
            }
        }
        due(m, "gift", x.gift(n), gift);
    }

    private static int withSoup(Model m, int c, int side, int n, int hour) {
        m.supposed.add(new int[] {c, side, n, hour});
        int most = m.most();
        m.supposed.clear();
        return most;
    }

    private static void quarrels(Model m, ConsentDoors x) {
        boolean[] told = m.quarrel.clone();
        int[] fewest = new int[10];
        java.util.Arrays.fill(fewest, -1);
        int all = 0;
        for (int c = 0; c < m.cells; c++) {
            all |= told[c] ? 1 << c : 0;
        }
        for (int mended = 0; mended <= all; mended++) {
            if ((mended & ~all) != 0) {
                continue;
            }
            for (int c = 0; c < m.cells; c++) {
                m.quarrel[c] = told[c] && (mended >> c & 1) == 0;
            }
            int most = m.most();
            for (int n = 0; n <= most; n++) {
                if (fewest[n] < 0 || Integer.bitCount(mended) < Integer.bitCount(fewest[n])) {
                    fewest[n] = mended;
                }
            }
        }
        m.quarrel = told;
        for (int n = 0; n <= 9; n++) {
            due(m, "mends(n, 0)", x.mends(n, 0), fewest[n] < 0 ? -1 : Integer.bitCount(fewest[n]));
            due(m, "mends(n, 1)", x.mends(n, 1), fewest[n]);
        }
    }

    private static void tale(Model m, ConsentDoors x, Random r) {
        int n = 1 + r.nextInt(m.hours);
        long[] row = new long[0];
        int refusing = r.nextInt(1 << m.cells) & r.nextInt(1 << m.cells);
        Set<Integer> out = new HashSet<>();
        for (int h = 0; h < n && row.length < 60; h += 1 + r.nextInt(2)) {
            int c = r.nextInt(m.cells);
            boolean opens = opensBut(m, c, h, out, refusing);
            if (opens) {
                out.add(c);
            }
            row = java.util.Arrays.copyOf(row, row.length + 3);
            row[row.length - 3] = h;
            row[row.length - 2] = c;
            row[row.length - 1] = r.nextInt(12) == 0 ? 1 - (opens ? 1 : 0) : opens ? 1 : 0;
        }
        Check.write(x, 1, row);
        int found = 0;
        int fewest = -1;
        int inAll = (1 << m.cells) - 1;
        int inNone = inAll;
        for (int men = 0; men < 1 << m.cells; men++) {
            if (untrue(m, row, men) < 0) {
                found++;
                fewest = fewest < 0 || Integer.bitCount(men) < Integer.bitCount(fewest) ? men : fewest;
                inAll &= men;
                inNone &= ~men;
            }
        }
        due(m, "refused", x.refused(1), found);
        due(m, "fewest", x.fewest(1), fewest);
        due(m, "sure(0)", x.sure(1, 0), found == 0 ? -1 : inAll);
        due(m, "sure(1)", x.sure(1, 1), found == 0 ? -1 : inNone);
        due(m, "odd", x.odd(1), untrue(m, row, 0));
        nods(m, x, r);
    }

    private static boolean opensBut(Model m, int c, int h, Set<Integer> out, int refusing) {
        int left = m.beside(c, 0);
        int right = m.beside(c, 1);
        boolean barred = left >= 0 && (refusing >> left & 1) == 1 || right >= 0 && (refusing >> right & 1) == 1;
        return !barred && m.opens(c, h, out);
    }

    private static int untrue(Model m, long[] row, int refusing) {
        Set<Integer> out = new HashSet<>();
        for (int i = 0; i < row.length; i += 3) {
            boolean opens = opensBut(m, (int) row[i + 1], (int) row[i], out, refusing);
            if (opens != (row[i + 2] == 1)) {
                return i / 3;
            }
            if (opens) {
                out.add((int) row[i + 1]);
            }
        }
        return -1;
    }

    private static void nods(Model m, ConsentDoors x, Random r) {
        long[] row = new long[3 * r.nextInt(21)];
        int[] forged = new int[m.cells];
        List<Set<Integer>> course = m.course(m.plan);
        for (int i = 0; i < row.length; i += 3) {
            int h = r.nextInt(m.hours);
            int c = r.nextInt(m.cells);
            int side = r.nextInt(2);
            row[i] = h;
            row[i + 1] = c;
            row[i + 2] = side;
            forged[c] += m.reason(c, side, h, h == 0 ? NOBODY : course.get(h - 1)) == 0 ? 0 : 1;
        }
        Check.write(x, 2, row);
        int sum = 0;
        int most = 0;
        int forger = -1;
        for (int c = 0; c < m.cells; c++) {
            sum += forged[c];
            forger = forged[c] > most ? c : forger;
            most = Math.max(most, forged[c]);
        }
        due(m, "forged", x.forged(2), sum);
        due(m, "forger", x.forger(2), forger);
    }

    /** What is asked of PLANS, by going through all of them, the first one first. */
    private static void everyPlan(Model m, ConsentDoors x) {
        int most = m.most();
        int[] plan = new int[m.hours];
        java.util.Arrays.fill(plan, -1);
        int[] best = null;
        int[][] cheapest = new int[2][1 << m.cells];
        java.util.Arrays.fill(cheapest[0], -1);
        java.util.Arrays.fill(cheapest[1], -1);
        int[] astray = new int[m.hours];
        List<Set<Integer>> told = m.course(m.plan);
        boolean more = true;
        while (more) {
            List<Set<Integer>> course = m.course(plan);
            if (course.get(m.hours - 1).size() == most) {
                best = best == null ? plan.clone() : best;
                for (int h = 0; h < m.hours; h++) {
                    astray[h] |= course.get(h).equals(told.get(h)) ? 1 : 0;
                }
            }
            flattered(m, plan, cheapest);
            more = next(plan, m.cells);
        }
        int first = -1;
        for (int h = m.hours - 1; h >= 0; h--) {
            due(m, "best", x.best(h), best[h]);
            first = astray[h] == 0 ? h : first;
        }
        due(m, "astray", x.astray(), first);
        corridors(m, x, cheapest);
    }

    /** What needs no going through all PLANS. */
    private static void bestAndAstray(Model m, ConsentDoors x) {
        Map<String, Integer> known = new HashMap<>();
        int most = m.mostFrom(NOBODY, 0, known);
        List<Set<Integer>> course = m.course(m.plan);
        Set<Integer> out = new HashSet<>();
        int astray = -1;
        for (int h = 0; h < m.hours; h++) {
            int best = m.mostFrom(out, h + 1, known) == most ? -1 : m.cells;
            for (int c = 0; c < m.cells && best == m.cells; c++) {
                Set<Integer> more = new HashSet<>(out);
                more.add(c);
                if (m.opens(c, h, out) && m.mostFrom(more, h + 1, known) == most) {
                    best = c;
                    out = more;
                }
            }
            due(m, "best", x.best(h), best);
            boolean lost = m.mostFrom(course.get(h), h + 1, known) < most;
            astray = astray < 0 && lost ? h : astray;
        }
        due(m, "astray", x.astray(), astray);
    }

    private static boolean next(int[] plan, int cells) {
        for (int h = plan.length - 1; h >= 0; h--) {
            if (plan[h] < cells - 1) {
                plan[h]++;
                return true;
            }
            plan[h] = -1;
        }
        return false;
    }

    // The points that each man would have to like each SIDE more for every door of a PLAN to open.
    private static void flattered(Model m, int[] plan, int[][] cheapest) {
        int[][] points = new int[m.cells][2];
        Set<Integer> out = new HashSet<>();
        for (int h = 0; h < m.hours; h++) {
            int c = plan[h];
            if (c < 0) {
                continue;
            }
            for (int side = 0; side < 2; side++) {
                int man = m.beside(c, side);
                int reason = man < 0 ? 0 : m.reason(man, 1 - side, h, out);
                if (out.contains(c) || reason != 0 && reason != 7) {
                    return;
                }
                if (reason == 7) {
                    int lack = m.temper[man] - m.likes(man, 1 - side, h);
                    points[man][1 - side] = Math.max(points[man][1 - side], lack);
                }
            }
            out.add(c);
        }
        int sum = 0;
        int men = 0;
        for (int[] p : points) {
            sum += p[0] + p[1];
            men += (p[0] > 0 ? 1 : 0) + (p[1] > 0 ? 1 : 0);
        }
        int bits = Model.bits(out);
        cheapest[0][bits] = cheapest[0][bits] < 0 ? sum : Math.min(sum, cheapest[0][bits]);
        cheapest[1][bits] = cheapest[1][bits] < 0 ? men : Math.min(men, cheapest[1][bits]);
    }

    private static void corridors(Model m, ConsentDoors x, int[][] cheapest) {
        for (int from = 0; from < m.cells; from++) {
            for (int to = 0; to < m.cells; to++) {
                int set = 0;
                for (int c = from; ; c = (c + 1) % m.cells) {
                    set |= 1 << c;
                    if (c == to) {
                        break;
                    }
                }
                boolean wrong = !m.ring && from > to;
                due(m, "corridor", x.corridor(from, to), wrong ? -2 : leastAbove(cheapest[0], set));
                due(m, "friends", x.friends(from, to), wrong ? -2 : leastAbove(cheapest[1], set));
            }
        }
    }

    private static int leastAbove(int[] cheapest, int set) {
        int least = -1;
        for (int bits = 0; bits < cheapest.length; bits++) {
            if ((bits & set) == set && cheapest[bits] >= 0 && (least < 0 || cheapest[bits] < least)) {
                least = cheapest[bits];
            }
        }
        return least;
    }
}
