import java.util.Random;

/** Long runs of calls, the same each time, on the class and on the model: each answer is compared. */
public final class ModelTests extends Due {
    /** With the 132 calls that compare all, and 20 undone, an object comes to its 512th call. */
    private static final int CALLS = 340;
    private static final int MOST_UNDONE = 20;
    private static final int CROWDED = 4;
    private static final int[] ODD = {-2147483648, -101, -3, -2, -1, 2, 3, 6, 7, 15, 16, 17, 31, 32, 99, 100, 2147483647};

    private final Random dice;
    private final MatchRows rows = new MatchRows();
    private final Model model = new Model();
    private final StringBuilder run = new StringBuilder();
    private final int style;
    private String call;
    private int got;
    private int want;

    private ModelTests(long seed) {
        dice = new Random(seed);
        style = dice.nextInt(5);
    }

    public static void main(String[] args) {
        int runs = args.length > 0 ? Integer.parseInt(args[0]) : 300;
        for (long seed = 1; seed <= runs && wrong() == 0; seed++) {
            new ModelTests(seed).play(seed);
        }
        end("ModelTests");
    }

    private void play(long seed) {
        for (int i = 0; i < CALLS; i++) {
            step();
            run.append(call).append(" = ").append(got).append('\n');
            due("seed " + seed + ", call " + i + ", " + call, got, want);
            if (got != want) {
                System.out.println(run);
                return;
            }
        }
        compareAll("seed " + seed + ", ");
        undoAll("seed " + seed + ", undone ");
    }

    private void undoAll(String when) {
        for (int i = 1; i <= MOST_UNDONE; i++) {
            due(when + i + ": undo()", rows.undo(), model.undo());
            due(when + i + ": differ()", rows.differ(), model.differ());
        }
    }

    private void compareAll(String when) {
        for (int t = 0; t < 2; t++) {
            for (int p = 0; p < 6; p++) {
                due(when + "at(" + t + ", " + p + ")", rows.at(t, p), model.at(t, p));
            }
            due(when + "right(" + t + ")", rows.right(t), 32);
        }
        for (int r = 0; r < 16; r++) {
            for (int what = 0; what < 7; what++) {
                due(when + "told(" + r + ", " + what + ")", rows.told(r, what), model.told(r, what));
            }
        }
        for (int what = 0; what < 6; what++) {
            due(when + "count(" + what + ")", rows.count(what), model.count(what));
        }
    }

    private int odd(int usual) {
        return dice.nextInt(60) == 0 ? ODD[dice.nextInt(ODD.length)] : usual;
    }

    private int below(int n) {
        return odd(dice.nextInt(n));
    }

    private int table() {
        return odd(dice.nextInt(10) < 7 ? 0 : 1);
    }

    private int rank() {
        return odd(style == 0 || style == CROWDED ? dice.nextInt(100) : dice.nextInt(4));
    }

    private int act() {
        return odd(style == 1 ? dice.nextInt(16) : dice.nextInt(2));
    }

    /** Few bits looked at give many rules that overlap; all bits give many that can be melted. */
    private int mask() {
        int mask = dice.nextInt(32);
        if (style == 2 || style == CROWDED && dice.nextBoolean()) {
            mask &= dice.nextInt(32);
        } else if (style == 3) {
            mask |= dice.nextInt(32) | 24;
        }
        return odd(mask);
    }

    private void said(String name, int mine, int due, int... words) {
        StringBuilder text = new StringBuilder(name).append('(');
        for (int i = 0; i < words.length; i++) {
            text.append(i == 0 ? "" : ", ").append(words[i]);
        }
        call = text.append(')').toString();
        got = mine;
        want = due;
    }

    private void step() {
        int pick = dice.nextInt(100);
        if (style == CROWDED && model.count(0) > 12 && pick < 80) {
            crowd();
        } else if (pick < 16) {
            makeRule();
        } else if (pick < 46) {
            changeTables();
        } else if (pick < 58) {
            meltOrUndo();
        } else if (pick < 76) {
            askRules();
        } else {
            askTables();
        }
    }

    /** A table that is full but for a place or two: there a put takes the most writes. */
    private void crowd() {
        int standing = model.count(1);
        int r = dice.nextInt(16);
        if (standing == model.count(3)) {
            r = model.at(0, dice.nextInt(standing));
            said("strike", rows.strike(0, r), model.strike(0, r), 0, r);
        } else if (standing < model.count(3) - 1 || dice.nextInt(12) > 0) {
            said("put", rows.put(0, r), model.put(0, r), 0, r);
        } else {
            int rank = rank();
            said("spare", rows.spare(0, rank), model.spare(0, rank), 0, rank);
        }
    }

    private void makeRule() {
        int pick = dice.nextInt(20);
        if (pick < 6) {
            makeNeighbour();
        } else if (pick < 14) {
            int v = below(32), m = mask(), r = rank(), a = act();
            said("rule", rows.rule(v, m, r, a), model.rule(v, m, r, a), v, m, r, a);
        } else if (pick < 16) {
            int a = act();
            said("last", rows.last(a), model.last(a), a);
        } else {
            int a = below(32), b = below(32), r = rank(), c = act();
            said("span", rows.span(a, b, r, c), model.span(a, b, r, c), a, b, r, c);
        }
    }

    /** A rule that might be melted with one that is there: one bit is another one. */
    private void makeNeighbour() {
        int near = dice.nextInt(16);
        boolean there = model.told(near, 0) >= 0;
        int v = there ? model.told(near, 1) ^ 1 << dice.nextInt(5) : below(32);
        int m = there ? model.told(near, 2) : 31;
        int r = rank();
        int a = there ? model.told(near, 4) : 1;
        said("rule", rows.rule(v, m, r, a), model.rule(v, m, r, a), v, m, r, a);
    }

    private void changeTables() {
        int pick = dice.nextInt(60);
        int t = table(), r = below(16);
        if (pick < 34) {
            said("put", rows.put(t, r), model.put(t, r), t, r);
        } else if (pick < 50) {
            said("strike", rows.strike(t, r), model.strike(t, r), t, r);
        } else if (pick < 53) {
            said("over", rows.over(), model.over());
        } else if (pick < 58) {
            said("build", rows.build(t), model.build(t), t);
        } else if (dice.nextInt(3) == 0) {
            int n = odd(2 + dice.nextInt(5));
            said("places", rows.places(n), model.places(n), n);
        } else {
            said("drop", rows.drop(r), model.drop(r), r);
        }
    }

    private void meltOrUndo() {
        int pick = dice.nextInt(12);
        if (pick < 8) {
            int t = table(), a = below(16), b = below(16);
            // Most pairs cannot be melted: look for one that might be, so that some are.
            for (int i = 0; i < 300 && !mightMelt(t, a, b); i++) {
                a = below(16);
                b = below(16);
            }
            said("melt", rows.melt(t, a, b), model.melt(t, a, b), t, a, b);
        } else if (pick < 11) {
            said("undo", rows.undo(), model.undo());
        } else if (dice.nextInt(3) == 0) {
            int r = below(16), a = act();
            said("act", rows.act(r, a), model.act(r, a), r, a);
        } else {
            int r = below(16);
            said("drop", rows.drop(r), model.drop(r), r);
        }
    }

    private boolean mightMelt(int t, int a, int b) {
        return a != b && model.told(a, 2) == model.told(b, 2) && model.told(a, 4) == model.told(b, 4)
            && model.told(a, 5 + (t & 1)) >= 0 && model.told(b, 5 + (t & 1)) >= 0
            && Integer.bitCount(model.told(a, 1) ^ model.told(b, 1)) == 1;
    }

    private void askRules() {
        int pick = dice.nextInt(4);
        int a = below(16), b = below(16);
        if (pick == 0) {
            int what = below(7);
            said("told", rows.told(a, what), model.told(a, what), a, what);
        } else if (pick == 1) {
            said("overlap", rows.overlap(a, b), model.overlap(a, b), a, b);
        } else if (pick == 2) {
            said("higher", rows.higher(a, b), model.higher(a, b), a, b);
        } else {
            int what = below(6);
            said("count", rows.count(what), model.count(what), what);
        }
    }

    private void askTables() {
        int t = table(), r = below(16);
        switch (dice.nextInt(9)) {
            case 0: said("writes", rows.writes(t, r), model.writes(t, r), t, r); break;
            case 1: {
                int i = odd(dice.nextInt(5) - 1), what = below(3);
                said("write", rows.write(i, what), model.write(i, what), i, what);
                break;
            }
            case 2: {
                int p = below(6);
                said("at", rows.at(t, p), model.at(t, p), t, p);
                break;
            }
            case 3: {
                int any = below(3), key = below(32);
                said("judged", rows.judged(any, key), model.judged(any, key), any, key);
                break;
            }
            case 4: said("right", rows.right(t), model.right(t), t); break;
            case 5: said("covered", rows.covered(t, r), model.covered(t, r), t, r); break;
            case 6: said("shown", rows.shown(t, r), model.shown(t, r), t, r); break;
            case 7: {
                int rank = rank();
                said("spare", rows.spare(t, rank), model.spare(t, rank), t, rank);
                break;
            }
            default: said("differ", rows.differ(), model.differ()); break;
        }
    }
}
