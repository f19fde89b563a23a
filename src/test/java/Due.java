import java.lang.reflect.InvocationTargetException;
import java.lang.reflect.Method;
import java.lang.reflect.Modifier;
import java.util.Arrays;
import java.util.Comparator;

/** What the tests share: compares answers with those that are due and counts the wrong ones. */
abstract class Due {
    static final int LEAST = Integer.MIN_VALUE;
    static final int MOST = Integer.MAX_VALUE;
    /** All keys 0 .. 31 are looked at one by one. */
    static final int KEYS = 32;

    private static int checked = 0;
    private static int wrong = 0;
    private static String test = "";

    /** Runs each test of a class: its static methods that take nothing and answer nothing. */
    static void runAll(Class<?> tests) {
        Method[] all = tests.getDeclaredMethods();
        Arrays.sort(all, Comparator.comparing(Method::getName));
        for (Method m : all) {
            boolean isTest = Modifier.isStatic(m.getModifiers()) && m.getParameterCount() == 0
                && m.getReturnType() == void.class && !m.isSynthetic();
            if (isTest) {
                run(m);
            }
        }
        end(tests.getSimpleName());
    }

    private static void run(Method m) {
        test = m.getName() + ": ";
        int before = checked;
        try {
            m.setAccessible(true);
            m.invoke(null);
        } catch (InvocationTargetException e) {
            holds("threw " + e.getCause(), false);
        } catch (IllegalAccessException e) {
            holds("cannot be run", false);
        }
        holds("looks at something", checked > before);
        test = "";
    }

    static void due(String call, int got, int want) {
        checked++;
        if (got != want) {
            wrong++;
            System.out.println(test + call + " answered " + got + ", due is " + want);
        }
    }

    static void holds(String what, boolean so) {
        checked++;
        if (!so) {
            wrong++;
            System.out.println(test + "not so: " + what);
        }
    }

    static int wrong() {
        return wrong;
    }

    /** Ends the program: exit code 1, if an answer was wrong or none was looked at. */
    static void end(String name) {
        System.out.println(name + ": " + checked + " answers looked at, " + wrong + " wrong");
        if (wrong != 0 || checked == 0) {
            System.exit(1);
        }
    }

    // ---- what several calls tell

    /** The rules at the places of a table, from place 0 on. */
    static void dueRow(String when, MatchRows x, int table, int... want) {
        for (int p = 0; p < want.length; p++) {
            due(when + ": at(" + table + ", " + p + ")", x.at(table, p), want[p]);
        }
    }

    /** What is told of a rule, from its kind on. */
    static void dueTold(String when, MatchRows x, int rule, int... want) {
        for (int what = 0; what < want.length; what++) {
            due(when + ": told(" + rule + ", " + what + ")", x.told(rule, what), want[what]);
        }
    }

    /** Pairs of a rule and a place: the writes of the latest put. */
    static void dueWrites(String when, MatchRows x, int... want) {
        due(when + ": write(-1, 0)", x.write(-1, 0), want.length / 2);
        due(when + ": write(-1, 1)", x.write(-1, 1), want.length / 2);
        for (int i = 0; i < want.length / 2; i++) {
            due(when + ": write(" + i + ", 0)", x.write(i, 0), want[2 * i]);
            due(when + ": write(" + i + ", 1)", x.write(i, 1), want[2 * i + 1]);
        }
        due(when + ": write behind the last", x.write(want.length / 2, 0), -1);
    }

    static void dueCounts(String when, MatchRows x, int... want) {
        for (int what = 0; what < want.length; what++) {
            due(when + ": count(" + what + ")", x.count(what), want[what]);
        }
    }

    /** By the three calls that tell of it: of each two that overlap the higher one is ahead. */
    static void dueSafe(String when, MatchRows x, int table) {
        int[] row = row(x, table);
        for (int p = 0; p < row.length; p++) {
            for (int q = p + 1; q < row.length; q++) {
                boolean meet = row[p] >= 0 && row[q] >= 0 && x.overlap(row[p], row[q]) == 1;
                holds(when + ": table " + table + " is safe", !meet || x.higher(row[p], row[q]) == 1);
            }
        }
    }

    static int[] row(MatchRows x, int table) {
        int[] row = new int[x.count(3)];
        for (int p = 0; p < row.length; p++) {
            row[p] = x.at(table, p);
        }
        return row;
    }

    // ---- objects to begin with

    /** Rules 0 .. n - 1 that fit one key each, the key of their number; of one rank, one act. */
    static MatchRows keys(int n, int rank, int act) {
        MatchRows x = new MatchRows();
        addKeys(x, n, rank, act);
        return x;
    }

    static void addKeys(MatchRows x, int n, int rank, int act) {
        for (int i = 0; i < n; i++) {
            x.rule(i, 31, rank, act);
        }
    }

    /** Rules 0 .. n - 1 (6 at most) that all overlap; each one is higher than the one ahead of it. */
    static MatchRows nested(int n, int places) {
        MatchRows x = new MatchRows();
        x.places(places);
        for (int i = 0; i < n; i++) {
            x.rule(0, (1 << i) - 1, 10 * i + 5, i);
        }
        return x;
    }

    /** Five rules so laid that a rule of rank 15 over all keys takes 12 writes; 15 rules in all. */
    static MatchRows farTable() {
        MatchRows x = new MatchRows();
        int[][] rules = {{9, 23, 21}, {16, 31, 42}, {21, 18, 22}, {16, 27, 8}, {31, 23, 14}, {2, 7, 17}, {11, 1, 7},
            {26, 26, 38}, {5, 12, 12}, {23, 14, 31}, {21, 7, 8}, {25, 14, 40}, {20, 30, 3}, {10, 15, 25}, {5, 2, 37}};
        for (int i = 0; i < rules.length; i++) {
            x.rule(rules[i][0], rules[i][1], rules[i][2], i);
        }
        // Rules to put, and, as -1 - rule, to strike.
        int[] run = {8, 0, 14, -1, 10, 5, 3, -6, 11, -15, 1, -12, 0, -11, 14, -4, 13, -1, 10, -11, -9, -15, 5, 3, 8, -2, 4};
        for (int r : run) {
            if (r >= 0) {
                x.put(0, r);
            } else {
                x.strike(0, -1 - r);
            }
        }
        return x;
    }

    /** A higher rule at place 3, a lower one at place 2, and rule 4 that goes between them. */
    static MatchRows eitherMoves(int higher, int lower) {
        MatchRows x = new MatchRows();
        x.rule(0, 1, higher == 0 ? 9 : 1, 1);
        x.rule(1, 1, higher == 1 ? 9 : 1, 2);
        x.rule(0, 31, 50, 3);
        x.rule(1, 31, 50, 3);
        x.rule(0, 0, 5, 3);
        x.put(0, 2);
        x.put(0, 3);
        x.put(0, lower);
        x.put(0, higher);
        x.strike(0, 2);
        x.strike(0, 3);
        dueRow("either moves", x, 0, -2, -2, lower, higher, -2, -2);
        return x;
    }

    static void putAll(MatchRows x, int table, int... rules) {
        for (int r : rules) {
            x.put(table, r);
        }
    }

    static void strikeAll(MatchRows x, int table, int... rules) {
        for (int r : rules) {
            x.strike(table, r);
        }
    }
}
