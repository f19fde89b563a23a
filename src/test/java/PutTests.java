import java.util.Arrays;
import java.util.Random;

/**
 * Promise 11 on crowded tables, the same each time: each put is compared with the first of the fewest
 * writes, looked for as the document words it. All ways of one write are tried, then all of two, and so
 * on, the lesser rule and the lesser place first; no way is thought to be known already.
 */
public final class PutTests extends Due {
    private static final int RULES = 16;
    private static final int FREE = -2;
    /** An object is used for 512 calls at most; a put is followed by two calls for each of its writes. */
    private static final int LAST_CALL = 480;

    private final Random dice;
    private final MatchRows rows = new MatchRows();
    private final int[] value = new int[RULES];
    private final int[] mask = new int[RULES];
    private final int[] rank = new int[RULES];
    private final int[] row;
    private int calls = 0;

    private PutTests(long seed) {
        dice = new Random(seed);
        int places = dice.nextInt(4) > 0 ? 6 : 2 + dice.nextInt(4);
        row = new int[places];
        Arrays.fill(row, FREE);
        rows.places(places);
        makeRules();
    }

    public static void main(String[] args) {
        int objects = args.length > 0 ? Integer.parseInt(args[0]) : 12000;
        for (long seed = 1; seed <= objects && wrong() == 0; seed++) {
            new PutTests(seed).play(seed);
        }
        end("PutTests");
    }

    private void makeRules() {
        int style = dice.nextInt(3);
        for (int r = 0; r < RULES; r++) {
            mask[r] = dice.nextInt(32);
            if (style > 0) {
                mask[r] &= dice.nextInt(32);
            }
            if (style > 1 && dice.nextBoolean()) {
                mask[r] |= dice.nextInt(32);
            }
            value[r] = dice.nextInt(32);
            rank[r] = dice.nextInt(style == 0 ? 5 : 100);
            due("rule", rows.rule(value[r], mask[r], rank[r], r), r);
        }
        calls = 1 + RULES;
    }

    private void play(long seed) {
        while (calls < LAST_CALL && wrong() == 0) {
            int r = dice.nextInt(RULES);
            if (standing() == row.length) {
                int place = dice.nextInt(row.length);
                due("seed " + seed + ": strike", rows.strike(0, row[place]), place);
                row[place] = FREE;
                calls++;
            } else if (placeOf(r) < 0) {
                comparePut("seed " + seed + ": rule " + r + " in " + Arrays.toString(row), r);
            }
        }
    }

    private void comparePut(String when, int rule) {
        int[] way = fewestWrites(rule);
        int writes = way.length / 2;
        due(when + ": put", rows.put(0, rule), writes);
        for (int i = 0; i < writes; i++) {
            due(when + ": the rule of write " + i, rows.write(i, 0), way[2 * i]);
            due(when + ": the place of write " + i, rows.write(i, 1), way[2 * i + 1]);
            move(way[2 * i], way[2 * i + 1]);
        }
        calls += 1 + 2 * writes;
    }

    private int standing() {
        int standing = 0;
        for (int r : row) {
            standing += r == FREE ? 0 : 1;
        }
        return standing;
    }

    private int placeOf(int rule) {
        for (int p = 0; p < row.length; p++) {
            if (row[p] == rule) {
                return p;
            }
        }
        return -1;
    }

    private void move(int rule, int place) {
        int home = placeOf(rule);
        if (home >= 0) {
            row[home] = FREE;
        }
        row[place] = rule;
    }

    /** Whether a rule may stand at a free place, with the others where they are. */
    private boolean isSafe(int rule, int place) {
        for (int p = 0; p < row.length; p++) {
            int other = row[p];
            boolean meet = other != FREE && other != rule
                && (value[other] & mask[other] & mask[rule]) == (value[rule] & mask[rule] & mask[other]);
            boolean higher = meet && (rank[other] > rank[rule] || rank[other] == rank[rule] && other < rule);
            if (meet && higher != p < place) {
                return false;
            }
        }
        return true;
    }

    /** Rule and place of each write. */
    private int[] fewestWrites(int rule) {
        for (int writes = 1; writes <= 12; writes++) {
            int[] way = new int[2 * writes];
            if (findsWay(rule, way, 0)) {
                return way;
            }
        }
        holds("a way was found", false);
        return new int[0];
    }

    private boolean findsWay(int rule, int[] way, int at) {
        if (at == way.length - 2) {
            return findsMove(rule, rule, way, at);
        }
        for (int r = 0; r < RULES; r++) {
            if (placeOf(r) >= 0 && findsMove(rule, r, way, at)) {
                return true;
            }
        }
        return false;
    }

    /** Leaves the row as it was, and in the way what it found. */
    private boolean findsMove(int rule, int moved, int[] way, int at) {
        int home = placeOf(moved);
        for (int p = 0; p < row.length; p++) {
            if (row[p] == FREE && isSafe(moved, p)) {
                way[at] = moved;
                way[at + 1] = p;
                if (at == way.length - 2) {
                    return true;
                }
                move(moved, p);
                boolean found = findsWay(rule, way, at + 2);
                row[p] = FREE;
                row[home] = moved;
                if (found) {
                    return true;
                }
            }
        }
        return false;
    }
}
