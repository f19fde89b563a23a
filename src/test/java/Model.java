import java.util.ArrayDeque;
import java.util.ArrayList;
import java.util.Arrays;
import java.util.HashMap;
import java.util.List;
import java.util.Map;

/**
 * The document once more, as literally as can be and by other ways than the class: overlapping is
 * asked key by key, a put goes back from all arrangements that have room, spare tries every rule.
 */
final class Model {
    private static final int FREE = -1;

    private static final class Rule {
        int kind, value, mask, rank, act;

        Rule(int kind, int value, int mask, int rank, int act) {
            this.kind = kind;
            this.value = value;
            this.mask = mask;
            this.rank = rank;
            this.act = act;
        }

        boolean fits(int key) {
            return (key & mask) == (value & mask);
        }
    }

    private static final class Past {
        final int[][] tables;
        final int live;
        final int melted;
        final int mask;

        Past(int[][] tables, int live, int melted, int mask) {
            this.tables = new int[][] {tables[0].clone(), tables[1].clone()};
            this.live = live;
            this.melted = melted;
            this.mask = mask;
        }
    }

    // The last number is above all that a caller can name: it is the rule that spare thinks of.
    private final Rule[] rules = new Rule[17];
    private int[][] tables = new int[2][];
    private int live;
    private List<Past> past = new ArrayList<>();
    private List<int[]> latest = new ArrayList<>();

    Model() {
        start(6);
    }

    private void start(int n) {
        Arrays.fill(rules, null);
        for (int t = 0; t < 2; t++) {
            tables[t] = new int[n];
            Arrays.fill(tables[t], FREE);
        }
        live = 0;
        past.clear();
        latest = new ArrayList<>();
    }

    private static boolean in(int x, int from, int to) {
        return from <= x && x <= to;
    }

    private boolean known(int r) {
        return in(r, 0, 15) && rules[r] != null;
    }

    private static int place(int[] table, int rule) {
        for (int p = 0; p < table.length; p++) {
            if (table[p] == rule) {
                return p;
            }
        }
        return -1;
    }

    private boolean meet(int a, int b) {
        for (int key = 0; key < 32; key++) {
            if (rules[a].fits(key) && rules[b].fits(key)) {
                return true;
            }
        }
        return false;
    }

    private boolean above(int a, int b) {
        if (rules[a].rank != rules[b].rank) {
            return rules[a].rank > rules[b].rank;
        }
        return a < b;
    }

    private boolean safe(int[] table) {
        for (int p = 0; p < table.length; p++) {
            for (int q = p + 1; q < table.length; q++) {
                if (table[p] != FREE && table[q] != FREE && meet(table[p], table[q]) && above(table[q], table[p])) {
                    return false;
                }
            }
        }
        return true;
    }

    private int judge(int[] table, int key) {
        for (int r : table) {
            if (r != FREE && rules[r].fits(key)) {
                return rules[r].act;
            }
        }
        return -1;
    }

    private int used(int[] table) {
        int used = 0;
        for (int r : table) {
            used += r == FREE ? 0 : 1;
        }
        return used;
    }

    private int free() {
        int free = 0;
        for (int r = 0; r < 16; r++) {
            free += rules[r] == null ? 1 : 0;
        }
        return free;
    }

    private int make(Rule rule) {
        for (int r = 0; r < 16; r++) {
            if (rules[r] == null) {
                rules[r] = rule;
                return r;
            }
        }
        return -3;
    }

    private void remember(int melted, int mask) {
        past.add(new Past(tables, live, melted, mask));
        if (past.size() > 20) {
            past.remove(0);
        }
    }

    int places(int n) {
        if (!in(n, 2, 6)) {
            return -1;
        }
        int before = tables[0].length;
        start(n);
        return before;
    }

    int rule(int value, int mask, int rank, int act) {
        if (!in(value, 0, 31) || !in(mask, 0, 31) || !in(rank, 0, 99) || !in(act, 0, 15)) {
            return -1;
        }
        return make(new Rule(0, value, mask, rank, act));
    }

    int last(int act) {
        return in(act, 0, 15) ? make(new Rule(2, 0, 0, 0, act)) : -1;
    }

    /** The fewest rows for each end, from the end back: not the greedy way. */
    int span(int a, int b, int rank, int act) {
        if (!in(a, 0, 31) || !in(b, 0, 31) || !in(rank, 0, 99) || !in(act, 0, 15) || a > b) {
            return -1;
        }
        int[] fewest = new int[33];
        int[] length = new int[33];
        for (int from = b; from >= a; from--) {
            fewest[from] = 99;
            for (int keys = 1; keys <= 32; keys *= 2) {
                if (from % keys == 0 && from + keys - 1 <= b && fewest[from + keys] + 1 < fewest[from]) {
                    fewest[from] = fewest[from + keys] + 1;
                    length[from] = keys;
                }
            }
        }
        if (fewest[a] > free()) {
            return -3;
        }
        for (int from = a; from <= b; from += length[from]) {
            make(new Rule(1, from, 32 - length[from], rank, act));
        }
        return fewest[a];
    }

    int told(int r, int what) {
        if (!known(r) || !in(what, 0, 6)) {
            return -101;
        }
        Rule x = rules[r];
        int[] all = {x.kind, x.value & x.mask, x.mask, x.rank, x.act, place(tables[0], r), place(tables[1], r)};
        return all[what];
    }

    int drop(int r) {
        if (!known(r)) {
            return -1;
        }
        if (place(tables[0], r) >= 0 || place(tables[1], r) >= 0) {
            return -2;
        }
        rules[r] = null;
        past.clear();
        return 1;
    }

    int act(int r, int act) {
        if (!known(r) || !in(act, 0, 15)) {
            return -1;
        }
        if (rules[r].kind == 2) {
            return -13;
        }
        int before = rules[r].act;
        rules[r].act = act;
        past.clear();
        return before;
    }

    int overlap(int a, int b) {
        return !known(a) || !known(b) ? -1 : meet(a, b) ? 1 : 0;
    }

    int higher(int a, int b) {
        return !known(a) || !known(b) ? -1 : a == b ? 0 : above(a, b) ? 1 : 2;
    }

    /** All safe tables with the same rules on as many places, each under its text. */
    private Map<String, int[]> arrangements(int[] table) {
        List<Integer> standing = new ArrayList<>();
        for (int r : table) {
            if (r != FREE) {
                standing.add(r);
            }
        }
        Map<String, int[]> all = new HashMap<>();
        int[] row = new int[table.length];
        Arrays.fill(row, FREE);
        arrange(standing, 0, row, all);
        return all;
    }

    private void arrange(List<Integer> standing, int i, int[] row, Map<String, int[]> all) {
        if (i == standing.size()) {
            if (safe(row)) {
                all.put(Arrays.toString(row), row.clone());
            }
            return;
        }
        for (int p = 0; p < row.length; p++) {
            if (row[p] == FREE) {
                row[p] = standing.get(i);
                arrange(standing, i + 1, row, all);
                row[p] = FREE;
            }
        }
    }

    private static int[] moved(int[] row, int rule, int to) {
        int[] next = row.clone();
        int home = place(row, rule);
        if (home >= 0) {
            next[home] = FREE;
        }
        next[to] = rule;
        return next;
    }

    /** How many writes each arrangement is from the put, the last one counted. */
    private Map<String, Integer> distances(Map<String, int[]> all, int rule) {
        Map<String, Integer> distance = new HashMap<>();
        ArrayDeque<int[]> queue = new ArrayDeque<>();
        for (Map.Entry<String, int[]> e : all.entrySet()) {
            for (int p = 0; p < e.getValue().length; p++) {
                if (e.getValue()[p] == FREE && safe(moved(e.getValue(), rule, p)) && !distance.containsKey(e.getKey())) {
                    distance.put(e.getKey(), 1);
                    queue.add(e.getValue());
                }
            }
        }
        while (!queue.isEmpty()) {
            int[] row = queue.poll();
            for (int r : row) {
                for (int p = 0; p < row.length; p++) {
                    if (r != FREE && row[p] == FREE) {
                        String next = Arrays.toString(moved(row, r, p));
                        if (all.containsKey(next) && !distance.containsKey(next)) {
                            distance.put(next, distance.get(Arrays.toString(row)) + 1);
                            queue.add(all.get(next));
                        }
                    }
                }
            }
        }
        return distance;
    }

    private List<int[]> plan(int[] table, int rule) {
        Map<String, Integer> distance = distances(arrangements(table), rule);
        List<int[]> plan = new ArrayList<>();
        int[] row = table.clone();
        int left = distance.get(Arrays.toString(row));
        while (left > 1) {
            int[] next = null;
            for (int r = 0; r < 17 && next == null; r++) {
                for (int p = 0; p < row.length && next == null; p++) {
                    if (place(row, r) >= 0 && row[p] == FREE) {
                        int[] tried = moved(row, r, p);
                        if (distance.getOrDefault(Arrays.toString(tried), 99) == left - 1) {
                            next = tried;
                            plan.add(new int[] {r, p});
                        }
                    }
                }
            }
            row = next;
            left--;
        }
        for (int p = 0; p < row.length; p++) {
            if (row[p] == FREE && safe(moved(row, rule, p))) {
                plan.add(new int[] {rule, p});
                return plan;
            }
        }
        throw new IllegalStateException("no room at last");
    }

    private int refusedPut(int t, int r) {
        if (!in(t, 0, 1) || !known(r)) {
            return -1;
        }
        if (place(tables[t], r) >= 0) {
            return -2;
        }
        return used(tables[t]) == tables[t].length ? -3 : 0;
    }

    int put(int t, int r) {
        int refused = refusedPut(t, r);
        if (refused != 0) {
            return refused;
        }
        remember(-1, 0);
        latest = plan(tables[t], r);
        for (int[] write : latest) {
            tables[t] = moved(tables[t], write[0], write[1]);
            if (!safe(tables[t])) {
                throw new IllegalStateException("not safe");
            }
        }
        return latest.size();
    }

    int writes(int t, int r) {
        int refused = refusedPut(t, r);
        return refused != 0 ? refused : plan(tables[t], r).size();
    }

    int write(int i, int what) {
        if (i == -1) {
            return latest.size();
        }
        return in(what, 0, 1) && in(i, 0, latest.size() - 1) ? latest.get(i)[what] : -1;
    }

    int strike(int t, int r) {
        if (!in(t, 0, 1) || !known(r)) {
            return -1;
        }
        int p = place(tables[t], r);
        if (p < 0) {
            return -2;
        }
        remember(-1, 0);
        tables[t][p] = FREE;
        latest = new ArrayList<>();
        return p;
    }

    int at(int t, int p) {
        if (!in(t, 0, 1) || !in(p, 0, tables[0].length - 1)) {
            return -1;
        }
        return tables[t][p] == FREE ? -2 : tables[t][p];
    }

    int judged(int t, int key) {
        if (!in(t, 0, 2) || !in(key, 0, 31)) {
            return -101;
        }
        return judge(tables[t == 2 ? live : t], key);
    }

    int right(int t) {
        if (!in(t, 0, 1)) {
            return -1;
        }
        int right = 0;
        for (int key = 0; key < 32; key++) {
            int best = FREE;
            for (int r : tables[t]) {
                if (r != FREE && rules[r].fits(key) && (best == FREE || above(r, best))) {
                    best = r;
                }
            }
            right += judge(tables[t], key) == (best == FREE ? -1 : rules[best].act) ? 1 : 0;
        }
        return right;
    }

    int shown(int t, int r) {
        if (!in(t, 0, 1) || !known(r)) {
            return -1;
        }
        next:
        for (int key = 0; key < 32; key++) {
            for (int other : tables[t]) {
                if (other != FREE && rules[other].fits(key) && above(other, r)) {
                    continue next;
                }
            }
            if (rules[r].fits(key)) {
                return key;
            }
        }
        return -2;
    }

    int covered(int t, int r) {
        if (!in(t, 0, 1) || !known(r)) {
            return -1;
        }
        if (place(tables[t], r) < 0) {
            return -2;
        }
        return shown(t, r) == -2 ? 1 : 0;
    }

    int spare(int t, int rank) {
        if (!in(t, 0, 1) || !in(rank, 0, 99)) {
            return -1;
        }
        if (used(tables[t]) == tables[t].length) {
            return -3;
        }
        Map<String, int[]> all = arrangements(tables[t]);
        Map<String, Integer> bySet = new HashMap<>();
        int most = 0;
        for (int mask = 0; mask < 32; mask++) {
            for (int value = 0; value < 32; value++) {
                rules[16] = new Rule(0, value, mask, rank, 0);
                StringBuilder set = new StringBuilder();
                for (int r : tables[t]) {
                    set.append(r != FREE && meet(r, 16) ? '1' : '0');
                }
                String name = set.toString();
                if (!bySet.containsKey(name)) {
                    bySet.put(name, distances(all, 16).get(Arrays.toString(tables[t])));
                }
                most = Math.max(most, bySet.get(name));
            }
        }
        rules[16] = null;
        return most;
    }

    int melt(int t, int a, int b) {
        if (!in(t, 0, 1) || !known(a) || !known(b) || a == b || rules[a].kind == 2 || rules[b].kind == 2) {
            return -1;
        }
        if (place(tables[t], a) < 0 || place(tables[t], b) < 0
                || place(tables[1 - t], a) >= 0 || place(tables[1 - t], b) >= 0) {
            return -2;
        }
        int apart = (rules[a].value ^ rules[b].value) & rules[a].mask;
        if (rules[a].mask != rules[b].mask || rules[a].act != rules[b].act || Integer.bitCount(apart) != 1) {
            return -2;
        }
        int left = above(a, b) ? a : b;
        int[] before = new int[32];
        for (int key = 0; key < 32; key++) {
            before[key] = judge(tables[t], key);
        }
        Past now = new Past(tables, live, left, rules[left].mask);
        tables[t][place(tables[t], a + b - left)] = FREE;
        rules[left].mask &= ~apart;
        boolean holds = safe(tables[t]);
        for (int key = 0; key < 32; key++) {
            holds &= before[key] == judge(tables[t], key);
        }
        if (!holds) {
            rules[left].mask = now.mask;
            tables = now.tables;
            return -2;
        }
        past.add(now);
        if (past.size() > 20) {
            past.remove(0);
        }
        latest = new ArrayList<>();
        return left;
    }

    int over() {
        remember(-1, 0);
        live = 1 - live;
        return live;
    }

    int differ() {
        int differ = 0;
        for (int key = 0; key < 32; key++) {
            differ += judge(tables[0], key) != judge(tables[1], key) ? 1 : 0;
        }
        return differ;
    }

    int build(int t) {
        if (!in(t, 0, 1)) {
            return -1;
        }
        if (used(tables[1 - t]) > 0) {
            return -2;
        }
        remember(-1, 0);
        List<Integer> order = new ArrayList<>();
        for (int r : tables[t]) {
            if (r != FREE) {
                order.add(r);
            }
        }
        order.sort((a, b) -> above(a, b) ? -1 : 1);
        int writes = 0;
        for (int r : order) {
            for (int[] write : plan(tables[1 - t], r)) {
                tables[1 - t] = moved(tables[1 - t], write[0], write[1]);
                writes++;
            }
        }
        latest = new ArrayList<>();
        return writes;
    }

    int undo() {
        if (past.isEmpty()) {
            return -2;
        }
        Past then = past.remove(past.size() - 1);
        tables = new int[][] {then.tables[0].clone(), then.tables[1].clone()};
        live = then.live;
        if (then.melted >= 0) {
            rules[then.melted].mask = then.mask;
        }
        latest = new ArrayList<>();
        return past.size();
    }

    int count(int what) {
        int[] all = {16 - free(), used(tables[0]), used(tables[1]), tables[0].length, live, past.size()};
        return in(what, 0, 5) ? all[what] : -1;
    }
}
