/** For each promise of the document: ordinary inputs, the edges that it names, wrong inputs. */
public final class PromiseTests extends Due {
    private static final int[] WRONG_TABLES = {-1, 2, LEAST, MOST};
    private static final int[] WRONG_RULES = {-1, 15, 16, LEAST, MOST};

    private PromiseTests() {
    }

    public static void main(String[] args) {
        runAll(PromiseTests.class);
    }

    // ---- promise 1
    private static void newObject() {
        MatchRows x = new MatchRows();
        dueCounts("new", x, 0, 0, 0, 6, 0, 0);
        dueRow("new", x, 0, -2, -2, -2, -2, -2, -2, -1);
        dueRow("new", x, 1, -2, -2, -2, -2, -2, -2, -1);
        due("new: undo()", x.undo(), -2);
        due("new: told(0, 0)", x.told(0, 0), -101);
        due("new: write(-1, 0)", x.write(-1, 0), 0);
        due("new: judged(2, 0)", x.judged(2, 0), -1);
        due("new: over()", x.over(), 1);
        MatchRows y = new MatchRows();
        due("another new one is not touched: count(4)", y.count(4), 0);
    }

    // ---- promise 2
    private static void places() {
        MatchRows x = new MatchRows();
        for (int wrong : new int[] {1, 7, 0, -1, LEAST, MOST}) {
            due("places(" + wrong + ")", x.places(wrong), -1);
        }
        due("count(3)", x.count(3), 6);
        due("places(2)", x.places(2), 6);
        due("places(3)", x.places(3), 2);
        due("places(3) again", x.places(3), 3);
        due("places(6)", x.places(6), 3);
        due("places(5)", x.places(5), 6);
        x.rule(1, 31, 1, 1);
        x.last(2);
        x.put(0, 0);
        x.put(1, 1);
        x.over();
        dueCounts("ahead of places", x, 2, 1, 1, 5, 1, 3);
        due("places(7) refused", x.places(7), -1);
        dueCounts("behind a refused one", x, 2, 1, 1, 5, 1, 3);
        due("places(4)", x.places(4), 5);
        dueCounts("behind places", x, 0, 0, 0, 4, 0, 0);
        dueRow("behind places", x, 0, -2, -2, -2, -2, -1, -1);
        dueRow("behind places", x, 1, -2, -2, -2, -2, -1, -1);
        due("behind places: undo()", x.undo(), -2);
        due("behind places: told(0, 0)", x.told(0, 0), -101);
        due("behind places: rule", x.rule(3, 31, 1, 1), 0);
    }

    // ---- promise 3
    private static void rule() {
        MatchRows x = new MatchRows();
        int[][] wrong = {{32, 0, 0, 0}, {-1, 0, 0, 0}, {0, 32, 0, 0}, {0, -1, 0, 0}, {0, 0, 100, 0}, {0, 0, -1, 0},
            {0, 0, 0, 16}, {0, 0, 0, -1}, {LEAST, 0, 0, 0}, {0, MOST, 0, 0}, {0, 0, LEAST, 0}, {0, 0, 0, MOST}};
        for (int[] w : wrong) {
            due("a wrong rule", x.rule(w[0], w[1], w[2], w[3]), -1);
        }
        due("count(0)", x.count(0), 0);
        due("the least rule", x.rule(0, 0, 0, 0), 0);
        due("the greatest rule", x.rule(31, 31, 99, 15), 1);
        dueTold("least", x, 0, 0, 0, 0, 0, 0, -1, -1);
        dueTold("greatest", x, 1, 0, 31, 31, 99, 15, -1, -1);
        for (int i = 2; i < 16; i++) {
            due("rule " + i, x.rule(i, 31, 1, 1), i);
        }
        due("a 17th rule", x.rule(1, 1, 1, 1), -3);
        due("BAD comes ahead of FULL", x.rule(32, 1, 1, 1), -1);
        due("count(0)", x.count(0), 16);
        x.drop(9);
        x.drop(4);
        due("the least number that is free", x.rule(1, 1, 1, 1), 4);
        due("the next one", x.rule(1, 1, 1, 1), 9);
        due("full again", x.rule(1, 1, 1, 1), -3);
    }

    // ---- promise 4
    private static void last() {
        MatchRows x = new MatchRows();
        for (int wrong : new int[] {-1, 16, LEAST, MOST}) {
            due("last(" + wrong + ")", x.last(wrong), -1);
        }
        due("last(0)", x.last(0), 0);
        due("last(15)", x.last(15), 1);
        dueTold("last", x, 1, 2, 0, 0, 0, 15, -1, -1);
        x.drop(0);
        due("the least number", x.last(3), 0);
        for (int i = 2; i < 16; i++) {
            x.last(1);
        }
        due("a 17th", x.last(1), -3);
        due("BAD comes ahead of FULL", x.last(16), -1);
        x.put(0, 5);
        for (int key = 0; key < 32; key++) {
            due("it fits all: judged(0, " + key + ")", x.judged(0, key), 1);
        }
    }

    // ---- promise 5
    private static void span() {
        MatchRows x = new MatchRows();
        int[][] wrong = {{5, 4, 0, 0}, {-1, 4, 0, 0}, {0, 32, 0, 0}, {32, 32, 0, 0}, {0, 4, 100, 0}, {0, 4, -1, 0},
            {0, 4, 0, 16}, {0, 4, 0, -1}, {LEAST, MOST, 0, 0}, {0, MOST, 0, 0}, {31, 0, 1, 1}};
        for (int[] w : wrong) {
            due("a wrong span", x.span(w[0], w[1], w[2], w[3]), -1);
        }
        due("count(0)", x.count(0), 0);
        int[][] rows = {{0, 31, 1}, {0, 0, 1}, {31, 31, 1}, {0, 15, 1}, {16, 31, 1}, {1, 30, 8}, {0, 30, 5}, {1, 31, 5},
            {7, 8, 2}, {8, 15, 1}, {3, 20, 5}, {4, 11, 2}, {15, 16, 2}, {2, 29, 6}, {30, 31, 1}, {29, 30, 2}};
        for (int[] r : rows) {
            x = new MatchRows();
            due("span(" + r[0] + ", " + r[1] + ")", x.span(r[0], r[1], 7, 3), r[2]);
            due("so many rules", x.count(0), r[2]);
            int[] with = new int[KEYS];
            for (int i = 0; i < r[2]; i++) {
                addKeysOfRow(x, i, with);
            }
            for (int key = 0; key < KEYS; key++) {
                due("rows with key " + key, with[key], key >= r[0] && key <= r[1] ? 1 : 0);
            }
        }
        x.places(6);
        x.span(3, 20, 99, 15);
        dueTold("row 0", x, 0, 1, 3, 31, 99, 15, -1, -1);
        dueTold("row 1", x, 1, 1, 4, 28, 99, 15, -1, -1);
        dueTold("row 2", x, 2, 1, 8, 24, 99, 15, -1, -1);
        dueTold("row 3", x, 3, 1, 16, 28, 99, 15, -1, -1);
        dueTold("row 4", x, 4, 1, 20, 31, 99, 15, -1, -1);
    }

    private static void addKeysOfRow(MatchRows x, int rule, int[] with) {
        int value = x.told(rule, 1);
        int mask = x.told(rule, 2);
        for (int key = 0; key < KEYS; key++) {
            with[key] += (key & mask) == value ? 1 : 0;
        }
    }

    private static void spanNumbers() {
        MatchRows x = keys(16, 1, 1);
        due("no number is free", x.span(0, 0, 1, 1), -3);
        due("BAD comes ahead of FULL", x.span(1, 0, 1, 1), -1);
        x.drop(11);
        x.drop(2);
        x.drop(5);
        due("4 rows, 3 numbers", x.span(1, 8, 9, 9), -3);
        due("nothing was made", x.count(0), 13);
        due("3 rows, 3 numbers", x.span(1, 7, 9, 9), 3);
        dueTold("first", x, 2, 1, 1, 31, 9, 9);
        dueTold("second", x, 5, 1, 2, 30, 9, 9);
        dueTold("third", x, 11, 1, 4, 28, 9, 9);
        due("full", x.span(3, 3, 1, 1), -3);
    }

    // ---- promise 6
    private static void told() {
        MatchRows x = new MatchRows();
        x.rule(29, 11, 42, 7);
        x.span(8, 11, 3, 2);
        x.last(4);
        dueTold("a rule: bits off the mask are not told", x, 0, 0, 9, 11, 42, 7, -1, -1, -101);
        dueTold("a span", x, 1, 1, 8, 28, 3, 2, -1, -1, -101);
        dueTold("a last", x, 2, 2, 0, 0, 0, 4, -1, -1, -101);
        x.put(0, 2);
        x.put(0, 0);
        x.put(1, 2);
        dueTold("in two tables", x, 2, 2, 0, 0, 0, 4, 1, 0);
        dueTold("in one table", x, 0, 0, 9, 11, 42, 7, 0, -1);
        for (int wrong : new int[] {-1, 3, 15, 16, 17, LEAST, MOST}) {
            due("told(" + wrong + ", 0)", x.told(wrong, 0), -101);
        }
        for (int wrong : new int[] {-1, 7, LEAST, MOST}) {
            due("told(0, " + wrong + ")", x.told(0, wrong), -101);
        }
        x.spare(0, 9);
        due("the rule that spare thinks of has no number", x.told(16, 3), -101);
    }

    // ---- promise 7
    private static void drop() {
        MatchRows x = keys(3, 1, 1);
        for (int wrong : WRONG_RULES) {
            due("drop(" + wrong + ")", x.drop(wrong), -1);
        }
        x.put(0, 0);
        x.put(1, 1);
        due("it stands in table 0", x.drop(0), -2);
        due("it stands in table 1", x.drop(1), -2);
        due("count(0)", x.count(0), 3);
        due("it stands nowhere", x.drop(2), 1);
        due("it is gone", x.drop(2), -1);
        due("it is gone: told", x.told(2, 0), -101);
        due("it is gone: put", x.put(0, 2), -1);
        due("count(0)", x.count(0), 2);
        x.strike(0, 0);
        due("struck, it can go", x.drop(0), 1);
        due("its number is used again", x.last(1), 0);
        dueTold("the new one", x, 0, 2, 0, 0, 0, 1, -1, -1);
    }

    // ---- promise 8
    private static void act() {
        MatchRows x = new MatchRows();
        x.rule(1, 31, 1, 5);
        x.span(2, 2, 1, 6);
        x.last(7);
        for (int wrong : WRONG_RULES) {
            due("act(" + wrong + ", 1)", x.act(wrong, 1), -1);
        }
        for (int wrong : new int[] {-1, 16, LEAST, MOST}) {
            due("act(0, " + wrong + ")", x.act(0, wrong), -1);
            due("BAD comes ahead of CAST", x.act(2, wrong), -1);
        }
        due("a last", x.act(2, 1), -13);
        due("it is as it was", x.told(2, 4), 7);
        x.put(0, 0);
        x.put(1, 0);
        due("a rule", x.act(0, 15), 5);
        due("a span", x.act(1, 0), 6);
        due("a rule again", x.act(0, 2), 15);
        due("the same act", x.act(0, 2), 2);
        due("told", x.told(1, 4), 0);
        due("the tables judge by it", x.judged(0, 1), 2);
        due("both tables", x.judged(1, 1), 2);
        due("right", x.right(0), 32);
    }

    // ---- promise 9
    private static void overlap() {
        MatchRows x = new MatchRows();
        x.rule(16, 24, 1, 1);
        x.rule(1, 3, 1, 1);
        x.rule(2, 7, 1, 1);
        x.rule(31, 31, 1, 1);
        x.last(1);
        x.rule(15, 0, 1, 1);
        int[][] want = {{0, 1, 1}, {0, 2, 1}, {1, 2, 0}, {0, 3, 0}, {1, 3, 0}, {3, 4, 1}, {4, 4, 1}, {3, 3, 1}, {3, 5, 1},
            {4, 5, 1}, {2, 3, 0}};
        for (int[] w : want) {
            due("overlap(" + w[0] + ", " + w[1] + ")", x.overlap(w[0], w[1]), w[2]);
            due("overlap(" + w[1] + ", " + w[0] + ")", x.overlap(w[1], w[0]), w[2]);
        }
        for (int wrong : WRONG_RULES) {
            due("overlap(0, " + wrong + ")", x.overlap(0, wrong), -1);
            due("overlap(" + wrong + ", 0)", x.overlap(wrong, 0), -1);
            due("overlap of one that is not", x.overlap(wrong, wrong), -1);
        }
    }

    // ---- promise 10
    private static void higher() {
        MatchRows x = new MatchRows();
        x.rule(0, 31, 5, 1);
        x.rule(0, 31, 6, 1);
        x.rule(9, 31, 5, 1);
        x.last(1);
        x.rule(0, 0, 0, 1);
        due("the greater rank", x.higher(1, 0), 1);
        due("the other one has it", x.higher(0, 1), 2);
        due("of like ranks the lesser number", x.higher(0, 2), 1);
        due("it is the other one", x.higher(2, 0), 2);
        due("a last and a rule of rank 0", x.higher(3, 4), 1);
        due("a rule of rank 0 and a last", x.higher(4, 3), 2);
        due("one", x.higher(2, 2), 0);
        for (int wrong : WRONG_RULES) {
            due("higher(0, " + wrong + ")", x.higher(0, wrong), -1);
            due("higher(" + wrong + ", 0)", x.higher(wrong, 0), -1);
            due("higher of one that is not", x.higher(wrong, wrong), -1);
        }
    }

    // ---- promise 11
    private static void put() {
        MatchRows x = new MatchRows();
        x.last(9);
        x.rule(0, 16, 5, 1);
        x.rule(0, 8, 6, 2);
        x.rule(31, 31, 1, 4);
        due("into an empty table: the least place", x.put(0, 0), 1);
        dueWrites("empty", x, 0, 0);
        due("a higher one: the last moves", x.put(0, 1), 2);
        dueWrites("higher", x, 0, 1, 1, 0);
        dueRow("higher", x, 0, 1, 0, -2);
        due("the highest: both move, the lower first", x.put(0, 2), 3);
        dueWrites("highest", x, 0, 2, 1, 1, 2, 0);
        dueRow("highest", x, 0, 2, 1, 0, -2, -2, -2);
        due("it overlaps the last alone", x.put(0, 3), 2);
        dueWrites("between", x, 0, 3, 3, 2);
        dueRow("between", x, 0, 2, 1, 3, 0, -2, -2);
        dueRow("the other table is not touched", x, 1, -2, -2, -2, -2, -2, -2);
        due("right", x.right(0), 32);
        due("the same rule in the other table", x.put(1, 3), 1);
        dueWrites("other table", x, 3, 0);
        dueRow("other table", x, 1, 3, -2);
        due("a hole is used", x.strike(0, 1), 1);
        due("put into the hole", x.put(0, 1), 1);
        dueWrites("hole", x, 1, 1);
    }

    private static void putLexically() {
        MatchRows x = new MatchRows();
        x.rule(0, 1, 1, 1);
        x.rule(1, 1, 1, 2);
        x.rule(0, 0, 9, 3);
        x.put(0, 1);
        x.put(0, 0);
        due("ahead of both", x.put(0, 2), 2);
        dueWrites("to the lesser of places", x, 1, 2, 2, 0);
        // The higher one stands behind the lower one, with free places at both ends: either moves.
        x = eitherMoves(0, 1);
        due("either moves", x.put(0, 4), 2);
        dueWrites("the lesser number, the higher one", x, 0, 0, 4, 1);
        dueRow("where it stood is free", x, 0, 0, 4, 1, -2, -2, -2);
        x = eitherMoves(1, 0);
        due("either moves", x.put(0, 4), 2);
        dueWrites("the lesser number, the lower one", x, 0, 5, 4, 4);
        dueRow("where it stood is free", x, 0, -2, -2, -2, 1, 4, 0);
        x = new MatchRows();
        x.rule(4, 31, 9, 1);
        x.rule(5, 31, 1, 1);
        x.rule(5, 31, 5, 2);
        x.put(0, 0);
        x.put(0, 1);
        due("to get ahead of 1, either moves", x.put(0, 2), 2);
        dueWrites("the lesser number, though it does not overlap", x, 0, 2, 2, 0);
        x = new MatchRows();
        x.rule(0, 1, 1, 1);
        x.rule(1, 1, 1, 2);
        x.rule(0, 0, 9, 3);
        x.put(0, 0);
        x.put(0, 1);
        due("both must go", x.put(0, 2), 2);
        dueWrites("only the first one has to go", x, 0, 2, 2, 0);
        x = new MatchRows();
        x.places(4);
        x.rule(0, 3, 1, 1);
        x.rule(1, 3, 1, 2);
        x.rule(0, 2, 9, 3);
        x.put(0, 1);
        x.put(0, 0);
        due("two rules below", x.put(0, 2), 2);
        dueWrites("the fewest come ahead of the least", x, 1, 2, 2, 0);
        dueRow("fewest", x, 0, 2, 0, 1, -2);
    }

    /** A put that takes 12 writes, the most that any takes: each write is looked at. */
    private static void putFar() {
        MatchRows x = farTable();
        int[] before = new int[6];
        for (int p = 0; p < 6; p++) {
            before[p] = x.at(0, p);
        }
        int rule = x.rule(0, 0, 15, 15);
        due("writes", x.writes(0, rule), 12);
        due("put", x.put(0, rule), 12);
        due("write(-1, 0)", x.write(-1, 0), 12);
        int[] row = before.clone();
        for (int i = 0; i < 12; i++) {
            int r = x.write(i, 0);
            int to = x.write(i, 1);
            holds("write " + i + " goes to a free place", row[to] == -2);
            for (int p = 0; p < 6; p++) {
                row[p] = row[p] == r ? -2 : row[p];
            }
            row[to] = r;
            for (int p = 0; p < 6; p++) {
                for (int q = p + 1; q < 6; q++) {
                    boolean bad = row[p] >= 0 && row[q] >= 0 && x.overlap(row[p], row[q]) == 1
                        && x.higher(row[p], row[q]) == 2;
                    holds("safe behind write " + i, !bad);
                }
            }
        }
        due("the last write lays the rule", x.write(11, 0), rule);
        dueRow("as the writes say", x, 0, row);
        due("right", x.right(0), 32);
        due("undo", x.undo(), x.count(5));
        dueRow("taken back", x, 0, before);
    }

    private static void putRefused() {
        MatchRows x = keys(4, 1, 1);
        x.put(0, 1);
        for (int wrong : WRONG_TABLES) {
            due("put(" + wrong + ", 0)", x.put(wrong, 0), -1);
        }
        for (int wrong : WRONG_RULES) {
            due("put(0, " + wrong + ")", x.put(0, wrong), -1);
        }
        due("it stands there", x.put(0, 1), -2);
        dueWrites("refused, the writes stay", x, 1, 0);
        due("undo of one", x.count(5), 1);
        x = keys(4, 1, 1);
        x.places(2);
        x.rule(0, 31, 1, 1);
        x.rule(1, 31, 1, 1);
        x.rule(2, 31, 1, 1);
        x.put(0, 0);
        x.put(0, 1);
        due("no place", x.put(0, 2), -3);
        due("NOT comes ahead of FULL", x.put(0, 0), -2);
        due("BAD comes ahead of FULL", x.put(0, 3), -1);
        due("the other table has a place", x.put(1, 2), 1);
        dueRow("full", x, 0, 0, 1, -1);
    }

    // ---- promise 12
    private static void writes() {
        MatchRows x = new MatchRows();
        x.last(9);
        x.rule(0, 16, 5, 1);
        x.rule(0, 8, 6, 2);
        x.put(0, 0);
        x.put(0, 1);
        due("writes(0, 2)", x.writes(0, 2), 3);
        due("writes(0, 2) again", x.writes(0, 2), 3);
        due("writes(1, 2)", x.writes(1, 2), 1);
        dueWrites("those of the put stay", x, 0, 1, 1, 0);
        dueRow("nothing moves", x, 0, 1, 0, -2);
        due("nothing to undo comes", x.count(5), 2);
        due("it stands there", x.writes(0, 0), -2);
        for (int wrong : WRONG_TABLES) {
            due("writes(" + wrong + ", 2)", x.writes(wrong, 2), -1);
        }
        for (int wrong : WRONG_RULES) {
            due("writes(0, " + wrong + ")", x.writes(0, wrong), -1);
        }
        x.places(2);
        x.rule(0, 31, 1, 1);
        x.rule(1, 31, 1, 1);
        x.rule(2, 31, 1, 1);
        x.put(1, 0);
        x.put(1, 1);
        due("no place", x.writes(1, 2), -3);
        due("NOT comes ahead of FULL", x.writes(1, 1), -2);
    }

    // ---- promise 13
    private static void write() {
        MatchRows x = new MatchRows();
        due("none yet", x.write(-1, 0), 0);
        due("none yet: write(-1, 2)", x.write(-1, 2), 0);
        due("none yet: write(0, 0)", x.write(0, 0), -1);
        x.last(1);
        x.rule(3, 31, 5, 1);
        x.put(1, 0);
        x.put(1, 1);
        dueWrites("two", x, 0, 1, 1, 0);
        for (int wrong : new int[] {-2, 2, 3, 16, LEAST, MOST}) {
            due("write(" + wrong + ", 0)", x.write(wrong, 0), -1);
            due("write(" + wrong + ", 1)", x.write(wrong, 1), -1);
        }
        for (int wrong : new int[] {-2, -1, 2, 3, 100, LEAST, MOST}) {
            due("write(0, " + wrong + ")", x.write(0, wrong), -1);
            due("write(-2, " + wrong + ")", x.write(-2, wrong), -1);
            due("how many, whatever the other number is: write(-1, " + wrong + ")", x.write(-1, wrong), 2);
        }
    }

    private static MatchRows withWrites() {
        MatchRows x = new MatchRows();
        x.rule(2, 31, 5, 1);
        x.rule(3, 31, 5, 1);
        x.rule(9, 31, 5, 4);
        x.last(1);
        x.put(0, 3);
        x.put(0, 0);
        x.put(0, 1);
        due("there are writes", x.write(-1, 0), 2);
        return x;
    }

    private static void writeForgotten() {
        MatchRows x = withWrites();
        x.over();
        x.drop(2);
        x.act(0, 7);
        x.rule(0, 0, 0, 0);
        x.last(0);
        due("by others they stay", x.write(-1, 0), 2);
        x = withWrites();
        x.strike(0, 2);
        x.melt(0, 0, 2);
        x.build(1);
        x.places(9);
        due("by refused ones they stay", x.write(-1, 0), 2);
        x = withWrites();
        x.strike(0, 0);
        due("by strike() there are none", x.write(-1, 0), 0);
        x = withWrites();
        due("melt", x.melt(0, 0, 1), 0);
        due("by melt() there are none", x.write(-1, 0), 0);
        due("by melt() there are none", x.write(0, 0), -1);
        x = withWrites();
        x.undo();
        due("by undo() there are none", x.write(-1, 0), 0);
        x = withWrites();
        due("build", x.build(0), 3);
        due("by build() there are none", x.write(-1, 0), 0);
        x = withWrites();
        x.places(6);
        due("by places() there are none", x.write(-1, 0), 0);
    }

    // ---- promise 14
    private static void strike() {
        MatchRows x = keys(4, 1, 3);
        x.put(0, 0);
        x.put(0, 1);
        x.put(0, 2);
        x.put(1, 1);
        for (int wrong : WRONG_TABLES) {
            due("strike(" + wrong + ", 0)", x.strike(wrong, 0), -1);
        }
        for (int wrong : WRONG_RULES) {
            due("strike(0, " + wrong + ")", x.strike(0, wrong), -1);
        }
        due("it stands nowhere", x.strike(0, 3), -2);
        due("it stands in the other table", x.strike(1, 0), -2);
        due("the place", x.strike(0, 1), 1);
        due("it is struck", x.strike(0, 1), -2);
        dueRow("struck", x, 0, 0, -2, 2, -2);
        dueRow("in the other table it stays", x, 1, 1, -2);
        due("the rule is there still", x.told(1, 0), 0);
        due("no key fits it here", x.judged(0, 1), -1);
        due("the other one judges", x.judged(1, 1), 3);
    }

    // ---- promise 15
    private static void at() {
        MatchRows x = keys(3, 1, 1);
        x.places(3);
        x.rule(4, 31, 1, 1);
        x.last(1);
        x.put(0, 1);
        x.put(0, 0);
        x.put(1, 1);
        dueRow("table 0", x, 0, 0, 1, -2, -1, -1, -1);
        dueRow("table 1", x, 1, 1, -2, -2, -1);
        for (int wrong : WRONG_TABLES) {
            due("at(" + wrong + ", 0)", x.at(wrong, 0), -1);
        }
        for (int wrong : new int[] {-1, 3, 6, LEAST, MOST}) {
            due("at(0, " + wrong + ")", x.at(0, wrong), -1);
        }
    }

    // ---- promise 16
    private static void judged() {
        MatchRows x = new MatchRows();
        x.rule(8, 24, 7, 3);
        x.rule(0, 1, 6, 2);
        x.put(0, 0);
        x.put(0, 1);
        x.put(1, 1);
        for (int key = 0; key < 32; key++) {
            int zero = key >= 8 && key < 16 ? 3 : key % 2 == 0 ? 2 : -1;
            int one = key % 2 == 0 ? 2 : -1;
            due("judged(0, " + key + ")", x.judged(0, key), zero);
            due("judged(1, " + key + ")", x.judged(1, key), one);
            due("judged(2, " + key + "), 0 is live", x.judged(2, key), zero);
        }
        x.over();
        due("1 is live", x.judged(2, 8), 2);
        due("table 0 judges as before", x.judged(0, 8), 3);
        due("none fits", x.judged(2, 9), -1);
        for (int wrong : new int[] {-1, 3, LEAST, MOST}) {
            due("judged(" + wrong + ", 0)", x.judged(wrong, 0), -101);
        }
        for (int wrong : new int[] {-1, 32, LEAST, MOST}) {
            due("judged(0, " + wrong + ")", x.judged(0, wrong), -101);
            due("judged(2, " + wrong + ")", x.judged(2, wrong), -101);
        }
    }

    // ---- promise 17
    private static void right() {
        MatchRows x = new MatchRows();
        due("empty", x.right(0), 32);
        for (int wrong : WRONG_TABLES) {
            due("right(" + wrong + ")", x.right(wrong), -1);
        }
        x.last(1);
        x.rule(3, 3, 9, 2);
        x.rule(3, 7, 8, 3);
        for (int r = 0; r < 3; r++) {
            x.put(0, r);
            x.put(1, 2 - r);
            due("right(0)", x.right(0), 32);
            due("right(1)", x.right(1), 32);
        }
    }

    // ---- promise 18
    private static void covered() {
        MatchRows x = new MatchRows();
        x.rule(0, 16, 5, 1);
        x.rule(0, 24, 6, 2);
        x.rule(8, 24, 7, 3);
        x.rule(0, 0, 5, 4);
        x.last(5);
        x.put(0, 0);
        due("alone", x.covered(0, 0), 0);
        x.put(0, 1);
        due("one half of it", x.covered(0, 0), 0);
        x.put(0, 2);
        due("by two together", x.covered(0, 0), 1);
        due("not by a lower one", x.covered(0, 1), 0);
        x.put(0, 3);
        due("keys from 16 on are left", x.covered(0, 3), 0);
        x.put(0, 4);
        due("all that the last fits", x.covered(0, 4), 1);
        x.put(1, 4);
        due("in the other table it is alone", x.covered(1, 4), 0);
        x.strike(0, 2);
        due("no more by two", x.covered(0, 0), 0);
        due("it does not stand there", x.covered(0, 2), -2);
        due("not in the other table", x.covered(1, 0), -2);
        for (int wrong : WRONG_TABLES) {
            due("covered(" + wrong + ", 0)", x.covered(wrong, 0), -1);
        }
        for (int wrong : WRONG_RULES) {
            due("covered(0, " + wrong + ")", x.covered(0, wrong), -1);
        }
        x = new MatchRows();
        x.rule(5, 31, 4, 1);
        x.rule(5, 31, 4, 1);
        x.put(0, 0);
        x.put(0, 1);
        due("of like rank the greater number is covered", x.covered(0, 1), 1);
        due("and the lesser is not", x.covered(0, 0), 0);
    }

    // ---- promise 19
    private static void shown() {
        MatchRows x = new MatchRows();
        x.rule(0, 16, 5, 1);
        x.rule(0, 24, 6, 2);
        x.rule(8, 24, 7, 3);
        x.last(5);
        due("it stands nowhere: the first key that it fits", x.shown(0, 2), 8);
        due("key 0", x.shown(0, 0), 0);
        x.put(0, 1);
        due("behind a higher one", x.shown(0, 0), 8);
        due("the other table is empty", x.shown(1, 0), 0);
        x.put(0, 2);
        due("none is left", x.shown(0, 0), -2);
        due("a lower one hides nothing", x.shown(0, 1), 0);
        x.put(0, 0);
        due("the last", x.shown(0, 3), 16);
        x.put(0, 3);
        due("standing there", x.shown(0, 3), 16);
        for (int wrong : WRONG_TABLES) {
            due("shown(" + wrong + ", 0)", x.shown(wrong, 0), -1);
        }
        for (int wrong : WRONG_RULES) {
            due("shown(0, " + wrong + ")", x.shown(0, wrong), -1);
        }
    }

    // ---- promise 20
    private static void spare() {
        MatchRows x = new MatchRows();
        due("empty", x.spare(0, 0), 1);
        due("empty", x.spare(1, 99), 1);
        for (int wrong : WRONG_TABLES) {
            due("spare(" + wrong + ", 0)", x.spare(wrong, 0), -1);
        }
        for (int wrong : new int[] {-1, 100, LEAST, MOST}) {
            due("spare(0, " + wrong + ")", x.spare(0, wrong), -1);
        }
        x.places(4);
        x.rule(0, 0, 3, 1);
        x.rule(0, 1, 5, 2);
        x.rule(0, 3, 7, 3);
        x.rule(1, 31, 1, 3);
        x.put(0, 0);
        x.put(0, 1);
        x.put(0, 2);
        dueRow("three", x, 0, 2, 1, 0, -2);
        due("below all", x.spare(0, 0), 1);
        due("of like rank it is lower: its number is above all", x.spare(0, 3), 1);
        due("above one", x.spare(0, 4), 2);
        due("of like rank with the second", x.spare(0, 5), 2);
        due("above two", x.spare(0, 6), 3);
        due("of like rank with the first", x.spare(0, 7), 3);
        due("above all", x.spare(0, 8), 4);
        due("the other table", x.spare(1, 8), 1);
        due("no rule is made", x.count(0), 4);
        due("nothing to undo", x.count(5), 3);
        dueWrites("the writes of the put stay", x, 0, 2, 1, 1, 2, 0);
        x.strike(0, 0);
        x.put(0, 3);
        x.put(0, 0);
        due("full", x.spare(0, 3), -3);
        due("BAD comes ahead of FULL", x.spare(0, 100), -1);
    }

    private static void spareFar() {
        MatchRows x = farTable();
        due("the farthest", x.spare(0, 15), 12);
        int most = 0;
        for (int value = 0; value < KEYS; value++) {
            // An object is used for 512 calls at most: so a new one for each value.
            x = farTable();
            for (int mask = 0; mask < KEYS; mask++) {
                int r = x.rule(value, mask, 15, 0);
                most = Math.max(most, x.writes(0, r));
                x.drop(r);
            }
        }
        due("of all rules with a number above all", most, 12);
    }

    // ---- promise 21
    private static void melt() {
        MatchRows x = new MatchRows();
        x.rule(4, 31, 3, 1);
        x.rule(5, 31, 4, 1);
        x.put(0, 0);
        x.put(0, 1);
        due("the higher one is left", x.melt(0, 0, 1), 1);
        dueTold("left", x, 1, 0, 4, 30, 4, 1, 1, -1);
        dueTold("struck, not gone", x, 0, 0, 4, 31, 3, 1, -1, -1);
        dueRow("melted", x, 0, -2, 1, -2);
        due("it judges both keys", x.judged(0, 4), 1);
        due("it judges both keys", x.judged(0, 5), 1);
        due("undone", x.undo(), 2);
        dueTold("as before", x, 1, 0, 5, 31, 4, 1, 1, -1);
        dueRow("as before", x, 0, 0, 1, -2);
        due("the other way round", x.melt(0, 1, 0), 1);
        x = new MatchRows();
        x.span(8, 12, 2, 3);
        x.span(13, 13, 2, 3);
        x.rule(12, 28, 2, 3);
        due("the span has two rows", x.count(0), 4);
        x.put(1, 1);
        x.put(1, 2);
        x.put(1, 0);
        due("two spans in table 1", x.melt(1, 1, 2), 1);
        dueTold("left", x, 1, 1, 12, 30, 2, 3, -1, 0);
        x.strike(1, 1);
        x.put(1, 3);
        due("a span and a rule", x.melt(1, 0, 3), 0);
        dueTold("left", x, 0, 1, 8, 24, 2, 3, -1, x.told(0, 6));
        x = new MatchRows();
        x.rule(7, 8, 1, 1);
        x.rule(24, 8, 1, 1);
        x.put(0, 0);
        x.put(0, 1);
        due("bits off the mask may differ", x.melt(0, 0, 1), 0);
        dueTold("left", x, 0, 0, 0, 0, 1, 1, 0, -1);
        due("all keys", x.judged(0, 31), 1);
    }

    private static void meltRefused() {
        MatchRows x = keys(9, 1, 1);
        x.act(8, 2);
        x.rule(3, 15, 1, 1);
        x.last(1);
        x.last(1);
        x.put(0, 0);
        x.put(0, 1);
        x.put(0, 3);
        x.put(0, 8);
        x.put(0, 9);
        for (int wrong : WRONG_TABLES) {
            due("melt(" + wrong + ", 0, 1)", x.melt(wrong, 0, 1), -1);
        }
        for (int wrong : WRONG_RULES) {
            due("melt(0, 0, " + wrong + ")", x.melt(0, 0, wrong), -1);
            due("melt(0, " + wrong + ", 0)", x.melt(0, wrong, 0), -1);
        }
        due("they are one", x.melt(0, 0, 0), -1);
        due("one that stands nowhere, twice", x.melt(0, 2, 2), -1);
        due("a last", x.melt(0, 0, 10), -1);
        due("a last ahead", x.melt(0, 10, 0), -1);
        due("two lasts", x.melt(0, 10, 11), -1);
        due("two bits", x.melt(0, 0, 3), -2);
        due("another act", x.melt(0, 0, 8), -2);
        due("another mask", x.melt(0, 1, 9), -2);
        due("one does not stand there", x.melt(0, 0, 2), -2);
        due("the other does not stand there", x.melt(0, 2, 0), -2);
        due("none stands there", x.melt(1, 0, 1), -2);
        x.put(1, 1);
        due("the lower one stands in both", x.melt(0, 0, 1), -2);
        x.strike(1, 1);
        x.put(1, 0);
        due("the higher one stands in both", x.melt(0, 0, 1), -2);
        x.put(1, 1);
        due("both stand in both", x.melt(0, 0, 1), -2);
        due("in the other table too", x.melt(1, 0, 1), -2);
        x.strike(1, 0);
        x.strike(1, 1);
        due("now they melt", x.melt(0, 0, 1), 0);
        x.places(6);
        x.rule(6, 31, 1, 1);
        x.rule(6, 31, 1, 1);
        x.put(0, 0);
        x.put(0, 1);
        due("no bit differs", x.melt(0, 0, 1), -2);
    }

    private static void meltSafe() {
        MatchRows x = new MatchRows();
        x.rule(4, 31, 9, 1);
        x.rule(5, 31, 1, 1);
        x.rule(5, 31, 5, 2);
        x.put(0, 0);
        x.put(0, 1);
        x.put(0, 2);
        due("key 5 would be judged by another act", x.melt(0, 0, 1), -2);
        dueTold("as it was", x, 0, 0, 4, 31, 9, 1, 2, -1);
        due("nothing is struck", x.count(1), 3);
        due("nothing more to undo", x.count(5), 3);
        x = new MatchRows();
        x.rule(4, 31, 9, 1);
        x.rule(5, 31, 1, 1);
        x.rule(5, 31, 5, 2);
        x.put(0, 0);
        x.put(0, 2);
        x.put(0, 1);
        dueRow("safe", x, 0, 0, 2, 1);
        due("key 5 would be judged by another act", x.melt(0, 0, 1), -2);
        x.act(2, 1);
        due("of like acts all is judged as before", x.melt(0, 0, 1), 0);
        dueRow("melted", x, 0, 0, 2, -2);
        x = new MatchRows();
        x.rule(5, 31, 5, 1);
        x.rule(4, 31, 9, 1);
        x.rule(5, 31, 1, 1);
        x.put(0, 0);
        x.put(0, 1);
        x.put(0, 2);
        dueRow("the higher one stands behind the middle one", x, 0, 0, 1, 2);
        due("all would be judged as before, but it would not be safe", x.melt(0, 1, 2), -2);
        dueTold("as it was", x, 1, 0, 4, 31, 9, 1, 1, -1);
        dueRow("as it was", x, 0, 0, 1, 2, -2, -2, -2);
        dueWrites("as it was", x, 2, 2);
        x.strike(0, 0);
        due("without the middle one they melt", x.melt(0, 1, 2), 1);
        x = new MatchRows();
        x.rule(1, 31, 9, 1);
        x.rule(0, 31, 1, 1);
        x.rule(0, 31, 5, 2);
        x.put(0, 0);
        x.put(0, 2);
        x.put(0, 1);
        due("key 0 would be judged by another act", x.melt(0, 0, 1), -2);
        x = new MatchRows();
        x.rule(30, 31, 9, 1);
        x.rule(31, 31, 1, 1);
        x.rule(31, 31, 5, 2);
        x.put(0, 0);
        x.put(0, 2);
        x.put(0, 1);
        due("key 31 would be judged by another act", x.melt(0, 0, 1), -2);
    }

    /** All would be judged as before and be safe: it is the masks, the acts that are not alike. */
    private static void meltUnlike() {
        MatchRows x = new MatchRows();
        x.rule(4, 30, 9, 1);
        x.rule(6, 31, 1, 1);
        x.rule(7, 31, 1, 1);
        x.put(0, 0);
        x.put(0, 1);
        x.put(0, 2);
        due("unlike masks", x.melt(0, 0, 1), -2);
        due("like ones", x.melt(0, 1, 2), 1);
        due("now these are alike", x.melt(0, 0, 1), 0);
        x = new MatchRows();
        x.rule(5, 31, 9, 3);
        x.rule(4, 31, 5, 1);
        x.rule(5, 31, 1, 2);
        x.put(0, 0);
        x.put(0, 1);
        x.put(0, 2);
        due("unlike acts", x.melt(0, 1, 2), -2);
        x.act(2, 1);
        due("like ones", x.melt(0, 1, 2), 1);
        due("the highest one judges as before", x.judged(0, 5), 3);
    }

    // ---- promise 22
    private static void over() {
        MatchRows x = keys(2, 1, 1);
        x.put(0, 0);
        due("over()", x.over(), 1);
        due("count(4)", x.count(4), 1);
        due("the live one is empty", x.judged(2, 0), -1);
        due("over() again", x.over(), 0);
        due("the live one", x.judged(2, 0), 1);
        due("two more to undo", x.count(5), 3);
        due("undone", x.undo(), 2);
        due("1 is live", x.count(4), 1);
        due("undone", x.undo(), 1);
        due("0 is live", x.count(4), 0);
        dueRow("tables stay", x, 0, 0, -2);
    }

    // ---- promise 23
    private static void differ() {
        MatchRows x = new MatchRows();
        due("both empty", x.differ(), 0);
        x.rule(0, 16, 1, 1);
        x.rule(0, 24, 2, 2);
        x.rule(0, 16, 3, 1);
        x.put(0, 0);
        due("none and an act", x.differ(), 16);
        x.put(1, 0);
        due("alike", x.differ(), 0);
        x.put(1, 1);
        due("another act for 8", x.differ(), 8);
        x.strike(0, 0);
        due("none and two acts", x.differ(), 16);
        x.strike(1, 1);
        x.strike(1, 0);
        x.put(0, 0);
        x.put(1, 2);
        due("two rules, one act", x.differ(), 0);
        x.over();
        due("whichever is live", x.differ(), 0);
    }

    // ---- promise 24
    private static void build() {
        MatchRows x = new MatchRows();
        for (int wrong : new int[] {-1, 2, LEAST, MOST, LEAST + 1, LEAST + 2}) {
            due("build(" + wrong + ")", x.build(wrong), -1);
        }
        due("of an empty one", x.build(0), 0);
        due("it can be undone", x.count(5), 1);
        x.rule(0, 31, 3, 1);
        x.rule(1, 31, 9, 2);
        x.rule(2, 31, 3, 3);
        x.last(4);
        x.rule(3, 31, 5, 5);
        x.put(0, 0);
        x.put(0, 2);
        x.put(0, 3);
        x.put(0, 4);
        x.put(0, 1);
        x.strike(0, 0);
        x.put(0, 0);
        due("build(0)", x.build(0), 5);
        dueRow("the higher first", x, 1, 1, 4, 0, 2, 3, -2);
        due("they judge alike", x.differ(), 0);
        due("live stays", x.count(4), 0);
        due("not empty", x.build(0), -2);
        due("the other one is not empty", x.build(1), -2);
        int left = x.count(5);
        due("undone in one", x.undo(), left - 1);
        dueRow("undone", x, 1, -2, -2, -2, -2, -2, -2);
        due("the table it is built of stays", x.count(1), 5);
        x = farTable();
        x.last(1);
        x.put(0, 15);
        due("a full table", x.build(0), 6);
        due("all six stand there", x.count(2), 6);
        for (int p = 1; p < 6; p++) {
            due("the higher first", x.higher(x.at(1, p - 1), x.at(1, p)), 1);
        }
        due("they judge alike", x.differ(), 0);
        x.places(3);
        x.last(1);
        x.rule(4, 31, 1, 1);
        x.put(1, 0);
        x.put(1, 1);
        due("the other is empty, so this is not built of", x.build(0), -2);
        x.put(0, 1);
        due("one is enough", x.build(1), -2);
        x.strike(0, 1);
        due("build(1)", x.build(1), 2);
        dueRow("built", x, 0, 1, 0, -2, -1);
    }

    // ---- promise 25
    private static void undo() {
        MatchRows x = keys(3, 1, 1);
        due("nothing", x.undo(), -2);
        x.put(0, 0);
        x.put(0, 1);
        x.put(1, 2);
        x.strike(0, 0);
        x.over();
        x.melt(0, 0, 1);
        due("what was refused does not count", x.count(5), 5);
        x.put(0, 0);
        due("melt", x.melt(0, 0, 1), 0);
        x.strike(1, 2);
        x.build(0);
        due("nine", x.count(5), 9);
        due("build", x.undo(), 8);
        dueRow("without build", x, 1, -2, -2);
        due("strike", x.undo(), 7);
        dueRow("without strike", x, 1, 2, -2);
        due("melt", x.undo(), 6);
        dueRow("without melt", x, 0, 0, 1);
        due("the mask is back", x.told(0, 2), 31);
        due("put", x.undo(), 5);
        dueRow("without put", x, 0, -2, 1);
        due("over", x.undo(), 4);
        due("0 is live", x.count(4), 0);
        due("strike", x.undo(), 3);
        dueRow("without strike", x, 0, 0, 1);
        due("put", x.undo(), 2);
        dueRow("without put", x, 1, -2, -2);
        due("put", x.undo(), 1);
        due("put", x.undo(), 0);
        dueRow("all is back", x, 0, -2, -2);
        due("none twice", x.undo(), -2);
        due("the rules stay", x.count(0), 3);
    }

    private static void undoMost() {
        MatchRows x = keys(1, 1, 1);
        x.put(0, 0);
        for (int i = 0; i < 19; i++) {
            x.over();
        }
        due("20", x.count(5), 20);
        x.over();
        x.over();
        x.over();
        due("20 at most", x.count(5), 20);
        due("the latest is 0", x.count(4), 0);
        for (int left = 19; left >= 0; left--) {
            due("undo()", x.undo(), left);
            due("live", x.count(4), left % 2);
            dueRow("the tables are not touched", x, 0, 0, -2);
            dueTold("the rule is not touched", x, 0, 0, 0, 31, 1, 1, 0, -1);
        }
        due("the older ones stay", x.undo(), -2);
        due("the put stays", x.at(0, 0), 0);
        due("three over() stay, less one", x.count(4), 0);
        x.strike(0, 0);
        due("from the start again", x.count(5), 1);
        due("undo()", x.undo(), 0);
        due("the put stays", x.at(0, 0), 0);
    }

    private static void undoCleared() {
        MatchRows x = keys(3, 1, 1);
        x.put(0, 0);
        due("drop", x.drop(2), 1);
        due("by drop() nothing can be undone", x.undo(), -2);
        dueRow("it stays", x, 0, 0, -2);
        x.put(0, 1);
        due("act", x.act(1, 5), 1);
        due("by act() nothing can be undone", x.undo(), -2);
        x.strike(0, 1);
        x.act(1, 16);
        x.drop(0);
        x.drop(9);
        x.last(3);
        x.act(2, 1);
        due("by refused ones it can", x.count(5), 1);
        due("undo()", x.undo(), 0);
        x.over();
        x.places(4);
        due("by places() nothing can be undone", x.undo(), -2);
    }

    private static void undoKeepsRules() {
        MatchRows x = keys(2, 1, 1);
        x.put(0, 0);
        x.put(0, 1);
        x.melt(0, 0, 1);
        due("a rule made since", x.rule(8, 12, 3, 4), 2);
        due("a span made since", x.span(6, 6, 3, 4), 1);
        due("undo()", x.undo(), 2);
        dueTold("it stays", x, 2, 0, 8, 12, 3, 4, -1, -1);
        due("undo()", x.undo(), 1);
        due("undo()", x.undo(), 0);
        dueTold("it stays", x, 2, 0, 8, 12, 3, 4, -1, -1);
        dueTold("it stays", x, 3, 1, 6, 31, 3, 4, -1, -1);
        due("four", x.count(0), 4);
    }

    // ---- promise 26
    private static void count() {
        MatchRows x = keys(4, 1, 1);
        x.last(1);
        x.put(0, 0);
        x.put(0, 1);
        x.put(1, 4);
        dueCounts("three puts", x, 5, 2, 1, 6, 0, 3);
        x.over();
        x.drop(3);
        dueCounts("over, drop", x, 4, 2, 1, 6, 1, 0);
        x.strike(0, 0);
        dueCounts("strike", x, 4, 1, 1, 6, 1, 1);
        for (int wrong : new int[] {-1, 6, LEAST, MOST}) {
            due("count(" + wrong + ")", x.count(wrong), -1);
        }
    }
}
