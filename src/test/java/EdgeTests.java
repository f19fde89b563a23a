/**
 * Promises 1 to 26: each sentence that names a boundary case has a test of its own, under its words;
 * the number of the promise begins its name. The edges of numbers stand in TermsTests, of refusals in
 * RefusalTests.
 */
public final class EdgeTests extends Due {
    private EdgeTests() {
    }

    public static void main(String[] args) {
        runAll(EdgeTests.class);
    }

    private static final int[] NO_ROW = {-2, -2, -2, -2, -2, -2, -1};

    /** All rules in use, both tables full, table 1 live, 20 acts to undo. */
    private static MatchRows fullOfAll() {
        MatchRows x = keys(15, 5, 1);
        x.last(2);
        putAll(x, 0, 0, 1, 2, 3, 4, 15);
        putAll(x, 1, 9, 10, 11, 12, 13, 14);
        for (int i = 0; i < 9; i++) {
            x.over();
        }
        dueCounts("full of all", x, 16, 6, 6, 6, 1, 20);
        return x;
    }

    // ---- promise 1: "No RULES, 6 PLACES, TABLE 0 live, nothing to undo."

    private static void p01NoRules() {
        MatchRows x = new MatchRows();
        due("rules", x.count(0), 0);
        due("in table 0", x.count(1), 0);
        due("in table 1", x.count(2), 0);
        for (int r = 0; r < 16; r++) {
            due("rule " + r, x.told(r, 0), -101);
        }
        due("the first one", x.rule(0, 0, 0, 0), 0);
    }

    private static void p01SixPlaces() {
        MatchRows x = new MatchRows();
        due("places", x.count(3), 6);
        dueRow("free", x, 0, NO_ROW);
        dueRow("free", x, 1, NO_ROW);
        due("how many there were", x.places(6), 6);
    }

    private static void p01Table0Live() {
        MatchRows x = new MatchRows();
        due("live", x.count(4), 0);
        due("the other one", x.over(), 1);
    }

    private static void p01NothingToUndo() {
        MatchRows x = new MatchRows();
        due("what can be undone", x.count(5), 0);
        due("undo", x.undo(), -2);
    }

    // ---- promise 2: "TABLES have n PLACES; all RULES go, TABLE 0 is live, nothing can be undone: how
    // many PLACES there were. BAD."

    private static void p02TablesHaveNPlaces() {
        MatchRows x = new MatchRows();
        for (int n = 6; n >= 2; n--) {
            x.places(n);
            due("count(3)", x.count(3), n);
            for (int table = 0; table < 2; table++) {
                due("the last of " + n, x.at(table, n - 1), -2);
                due("behind the last of " + n, x.at(table, n), -1);
            }
            addKeys(x, n + 1, 1, 1);
            for (int r = 0; r < n; r++) {
                due("put " + r, x.put(1, r), 1);
            }
            due("one more than " + n, x.put(1, n), -3);
        }
    }

    private static void p02AllRulesGo() {
        for (int n : new int[] {2, 6}) {
            MatchRows x = fullOfAll();
            x.places(n);
            due("rules", x.count(0), 0);
            due("in table 0", x.count(1), 0);
            due("in table 1", x.count(2), 0);
            for (int r = 0; r < 16; r++) {
                due("rule " + r, x.told(r, 0), -101);
            }
            for (int p = 0; p < n; p++) {
                due("place " + p, x.at(0, p), -2);
                due("place " + p, x.at(1, p), -2);
            }
            due("no key is judged", x.judged(0, 0), -1);
            due("the tables are alike", x.differ(), 0);
            due("the least number again", x.last(1), 0);
        }
    }

    private static void p02Table0IsLive() {
        MatchRows x = fullOfAll();
        x.places(6);
        due("live", x.count(4), 0);
        due("the other one", x.over(), 1);
    }

    private static void p02NothingCanBeUndone() {
        MatchRows x = fullOfAll();
        x.places(6);
        due("what can be undone", x.count(5), 0);
        due("undo", x.undo(), -2);
        x.over();
        due("from the start again", x.undo(), 0);
    }

    private static void p02HowManyPlacesThereWere() {
        MatchRows x = new MatchRows();
        due("at first", x.places(2), 6);
        due("the least", x.places(6), 2);
        due("the most", x.places(6), 6);
        due("the most", x.places(3), 6);
        due("refused: 1", x.places(1), -1);
        due("refused: 7", x.places(7), -1);
        due("three still", x.places(2), 3);
        due("the least, again", x.places(2), 2);
    }

    // ---- promise 3: "A RULE of KIND 0: its number. BAD; FULL: 16."

    private static void p03FullWith16() {
        MatchRows x = new MatchRows();
        x.span(1, 30, 1, 1);
        x.last(1);
        addKeys(x, 6, 1, 1);
        due("15 in use", x.count(0), 15);
        due("the 16th", x.rule(31, 31, 99, 15), 15);
        due("the 17th", x.rule(31, 31, 99, 15), -3);
        due("16 in use", x.count(0), 16);
        x.drop(15);
        due("one is free again", x.rule(0, 0, 0, 0), 15);
    }

    private static void p03KeepsWhatIsTold() {
        MatchRows x = new MatchRows();
        x.rule(0, 31, 0, 0);
        x.rule(31, 31, 99, 15);
        x.rule(31, 0, 50, 7);
        dueTold("the least of all", x, 0, 0, 0, 31, 0, 0, -1, -1);
        dueTold("the greatest of all", x, 1, 0, 31, 31, 99, 15, -1, -1);
        dueTold("no bit is looked at", x, 2, 0, 0, 0, 50, 7, -1, -1);
    }

    // ---- promise 4: "A LAST: its number. BAD; FULL."

    private static void p04FullWith16() {
        MatchRows x = keys(15, 1, 1);
        due("the 16th", x.last(0), 15);
        due("the 17th", x.last(0), -3);
        x.drop(3);
        due("one is free again", x.last(15), 3);
        dueTold("it", x, 3, 2, 0, 0, 0, 15, -1, -1);
    }

    private static void p04TwoLasts() {
        MatchRows x = new MatchRows();
        x.last(1);
        x.last(2);
        due("the lesser number is higher", x.higher(1, 0), 2);
        x.put(0, 1);
        due("it comes ahead", x.put(0, 0), 2);
        due("it judges", x.judged(0, 31), 1);
        due("the other one is covered", x.covered(0, 1), 1);
    }

    // ---- promise 5: "CUT: SPANS, one for each row ..: how many; their numbers are those that were
    // least, in order. BAD: also a above b; FULL."

    private static void p05AAboveB() {
        MatchRows x = new MatchRows();
        due("above", x.span(5, 4, 1, 1), -1);
        due("far above", x.span(31, 0, 1, 1), -1);
        due("none was made", x.count(0), 0);
        due("alike", x.span(5, 5, 1, 1), 1);
        due("below", x.span(4, 5, 1, 1), 1);
    }

    private static void p05TheFewestAndTheMostRows() {
        MatchRows x = new MatchRows();
        due("all keys: one row", x.span(0, 31, 1, 1), 1);
        dueTold("it looks at no bit", x, 0, 1, 0, 0, 1, 1);
        due("all but the first and the last: eight rows", x.span(1, 30, 1, 1), 8);
        int[][] rows = {{1, 31}, {2, 30}, {4, 28}, {8, 24}, {16, 24}, {24, 28}, {28, 30}, {30, 31}};
        for (int i = 0; i < 8; i++) {
            dueTold("row " + i, x, 1 + i, 1, rows[i][0], rows[i][1], 1, 1, -1, -1);
        }
    }

    private static void p05TheNumbersThatWereLeastInOrder() {
        MatchRows x = keys(16, 1, 1);
        for (int r : new int[] {15, 0, 8, 3}) {
            x.drop(r);
        }
        due("four rows, four numbers", x.span(3, 9, 2, 4), 3);
        dueTold("3", x, 0, 1, 3, 31, 2, 4);
        dueTold("4 .. 7", x, 3, 1, 4, 28, 2, 4);
        dueTold("8 .. 9", x, 8, 1, 8, 30, 2, 4);
        due("15 is not in use", x.told(15, 0), -101);
    }

    private static void p05FullIfOneRowIsTooMany() {
        MatchRows x = keys(8, 1, 1);
        due("8 rows, 8 numbers", x.span(1, 30, 1, 1), 8);
        due("1 row, no number", x.span(0, 31, 1, 1), -3);
        x = keys(9, 1, 1);
        due("8 rows, 7 numbers", x.span(1, 30, 1, 1), -3);
        due("none was made", x.count(0), 9);
        due("7 rows, 7 numbers", x.span(1, 29, 1, 1), 7);
        due("all are in use", x.count(0), 16);
    }

    private static void p05TheRowsStandAlone() {
        MatchRows x = new MatchRows();
        x.span(2, 5, 7, 3);
        due("no two overlap", x.overlap(0, 1), 0);
        due("row 0", x.put(0, 0), 1);
        due("row 1", x.put(0, 1), 1);
        for (int key = 0; key < KEYS; key++) {
            due("key " + key, x.judged(0, key), key >= 2 && key <= 5 ? 3 : -1);
        }
    }

    // ---- promise 6: "0 KIND .. 5, 6 its PLACE in TABLE 0, 1 (-1: it does not stand there). BAD less
    // 100 (-101)."

    private static void p06FromKindToPlaces() {
        MatchRows x = keys(7, 4, 3);
        putAll(x, 0, 0, 1, 2, 3, 4, 6);
        putAll(x, 1, 6);
        dueTold("the last place and the first", x, 6, 0, 6, 31, 4, 3, 5, 0, -101);
        dueTold("the first place and none", x, 0, 0, 0, 31, 4, 3, 0, -1, -101);
        dueTold("none", x, 5, 0, 5, 31, 4, 3, -1, -1, -101);
        due("ahead of the kind", x.told(6, -1), -101);
    }

    private static void p06BadLess100() {
        MatchRows x = new MatchRows();
        due("no rule", x.told(0, 5), -101);
        x.last(0);
        due("one", x.told(0, 5), -1);
        due("behind it", x.told(1, 5), -101);
        due("ahead of it", x.told(-1, 5), -101);
        due("no such number", x.told(0, 7), -101);
        due("no such number", x.told(0, MOST), -101);
        due("no such number", x.told(0, LEAST), -101);
    }

    // ---- promise 7: "A RULE that stands nowhere goes: 1. BAD; NOT: it stands in a TABLE."

    private static void p07StandsNowhereGoes() {
        MatchRows x = keys(16, 1, 1);
        for (int r = 15; r >= 0; r--) {
            due("drop(" + r + ")", x.drop(r), 1);
            due("so many are left", x.count(0), r);
            due("it is gone", x.drop(r), -1);
        }
    }

    private static void p07NotIfItStandsInATable() {
        MatchRows x = keys(3, 1, 1);
        x.put(0, 0);
        x.put(1, 1);
        x.put(0, 2);
        x.put(1, 2);
        due("in table 0", x.drop(0), -2);
        due("in table 1", x.drop(1), -2);
        due("in both", x.drop(2), -2);
        x.strike(0, 2);
        due("in one of both", x.drop(2), -2);
        x.strike(1, 2);
        due("in none", x.drop(2), 1);
        x.over();
        due("in the one that is not live", x.drop(0), -2);
    }

    // ---- promise 8: "The ACT of a SPAN, a RULE becomes another one: what it was. BAD; CAST: it is a
    // LAST."

    private static void p08WhatItWas() {
        MatchRows x = new MatchRows();
        x.rule(1, 31, 1, 0);
        x.span(2, 2, 1, 15);
        due("a rule", x.act(0, 15), 0);
        due("a span", x.act(1, 0), 15);
        due("told", x.told(0, 4), 15);
        due("told", x.told(1, 4), 0);
        due("back", x.act(0, 0), 15);
        due("the same one", x.act(0, 0), 0);
    }

    private static void p08CastOfALast() {
        MatchRows x = new MatchRows();
        x.rule(0, 0, 0, 3);
        x.last(4);
        due("a rule that is like a last", x.act(0, 5), 3);
        due("a last", x.act(1, 5), -13);
        due("its own act", x.act(1, 4), -13);
        due("told", x.told(1, 4), 4);
    }

    private static void p08TablesJudgeByIt() {
        MatchRows x = keys(1, 1, 4);
        x.put(0, 0);
        x.put(1, 0);
        x.act(0, 9);
        due("in table 0", x.judged(0, 0), 9);
        due("in table 1", x.judged(1, 0), 9);
        due("right", x.right(0), 32);
    }

    // ---- promises 9, 10: "1, 0. BAD."; "1 the first one is HIGHER, 2 the other one, 0 they are one."

    private static void p09StandingOrNot() {
        MatchRows x = new MatchRows();
        x.rule(0, 1, 1, 1);
        x.rule(0, 2, 1, 1);
        due("they stand nowhere", x.overlap(0, 1), 1);
        x.put(0, 0);
        x.put(1, 1);
        due("in one table each", x.overlap(0, 1), 1);
        due("with itself", x.overlap(1, 1), 1);
    }

    private static void p10TheyAreOne() {
        MatchRows x = new MatchRows();
        x.rule(0, 31, 1, 1);
        x.rule(0, 31, 1, 1);
        due("one", x.higher(1, 1), 0);
        due("alike, but two", x.higher(0, 1), 1);
        due("alike, but two", x.higher(1, 0), 2);
    }

    // ---- promise 11: "TO PUT: how many WRITES. BAD; NOT: it stands there; FULL."

    private static void p11FewestAndMostWrites() {
        MatchRows x = new MatchRows();
        x.last(1);
        due("an empty table", x.put(0, 0), 1);
        x = farTable();
        int low = x.rule(0, 0, 15, 1);
        due("the most", x.put(0, low), 12);
        dueSafe("behind it", x, 0);
        due("right", x.right(0), 32);
    }

    /** Five stand, and the fewest writes lead far about: of the ways none may be passed over. */
    private static void p11TheFewestOfManyWays() {
        MatchRows x = new MatchRows();
        int[][] rules = {{1, 11, 2}, {2, 2, 7}, {0, 2, 7}, {0, 8, 1}, {8, 24, 9}, {0, 19, 1}, {0, 8, 4}};
        addRules(x, rules);
        putAll(x, 0, 1, 4, 2, 5, 6, 0);
        x.strike(0, 4);
        dueRow("place 0 is free", x, 0, -2, 1, 2, 6, 5, 0);
        due("put", x.put(0, 3), 5);
        dueWrites("not rule 1 first, which takes one more", x, 2, 0, 6, 2, 0, 3, 5, 5, 3, 4);
        x = new MatchRows();
        rules = new int[][] {{20, 21, 4}, {17, 25, 2}, {16, 16, 5}, {4, 5, 0}, {0, 0, 1}, {0, 0, 0}, {16, 21, 6}};
        addRules(x, rules);
        putAll(x, 0, 3, 6, 0, 1, 5);
        dueRow("place 5 is free", x, 0, 0, 6, 3, 1, 5, -2);
        due("put", x.put(0, 2), 5);
        dueWrites("not rule 1 second, which takes one more", x, 5, 5, 3, 4, 0, 2, 6, 0, 2, 1);
    }

    /** Of a value, a mask, a rank each. */
    private static void addRules(MatchRows x, int[][] rules) {
        for (int[] r : rules) {
            x.rule(r[0], r[1], r[2], 1);
        }
    }

    private static void p11NotIfItStandsThere() {
        MatchRows x = keys(2, 1, 1);
        x.put(0, 0);
        due("there", x.put(0, 0), -2);
        due("in the other one", x.put(1, 0), 1);
        due("in both", x.put(1, 0), -2);
        x.strike(0, 0);
        due("struck", x.put(0, 0), 1);
    }

    private static void p11FullAndOneLess() {
        MatchRows x = nested(6, 6);
        putAll(x, 0, 0, 1, 2, 3, 4);
        due("five stand", x.count(1), 5);
        due("the sixth", x.put(0, 5), 6);
        int more = x.rule(9, 31, 1, 1);
        due("a seventh", x.put(0, more), -3);
        due("the other table has places", x.put(1, more), 1);
        x.strike(0, 3);
        // Rules 2, 1, 0 each move by one place, as it must come behind rule 0.
        due("one place is free", x.put(0, more), 4);
    }

    // ---- promise 12: "How many WRITES TO PUT would take. BAD, NOT, FULL as put()."

    private static void p12AsPut() {
        MatchRows x = farTable();
        for (int r = 0; r < 15; r++) {
            for (int table = 0; table < 2; table++) {
                int would = x.writes(table, r);
                due("put(" + table + ", " + r + ")", x.put(table, r), would);
                if (would > 0) {
                    x.undo();
                }
            }
        }
        x.last(1);
        x.put(0, 15);
        due("full", x.writes(0, 0), -3);
        due("it stands there", x.writes(0, 15), -2);
    }

    private static void p12NothingIsWritten() {
        MatchRows x = nested(4, 6);
        putAll(x, 0, 0, 1, 2);
        int acts = x.count(5);
        due("it would move all", x.writes(0, 3), 4);
        dueRow("none has moved", x, 0, 2, 1, 0, -2, -2, -2);
        dueWrites("those of the put", x, 0, 2, 1, 1, 2, 0);
        due("nothing more to undo", x.count(5), acts);
    }

    // ---- promise 13: "Of the latest put(): WRITE i: 0 the RULE, 1 the PLACE; i = -1: how many. BAD.
    // (By strike(), melt(), undo(), build(), places() there are none.)"

    private static void p13NoneAtFirst() {
        MatchRows x = new MatchRows();
        dueWrites("new", x);
        due("the first one", x.write(0, 1), -1);
    }

    private static void p13FromTheFirstToTheLast() {
        MatchRows x = nested(3, 6);
        putAll(x, 0, 0, 1, 2);
        due("how many", x.write(-1, 0), 3);
        due("the first one", x.write(0, 0), 0);
        due("the first one", x.write(0, 1), 2);
        due("the last one", x.write(2, 0), 2);
        due("the last one", x.write(2, 1), 0);
        due("behind the last", x.write(3, 0), -1);
        due("behind the last", x.write(3, 1), -1);
        due("ahead of how many", x.write(-2, 0), -1);
        due("no such number", x.write(0, 2), -1);
        due("no such number", x.write(0, -1), -1);
        due("how many, whatever the other number is", x.write(-1, 2), 3);
        due("how many, whatever the other number is", x.write(-1, -1), 3);
    }

    private static void p13OfTheLatestPut() {
        MatchRows x = nested(3, 6);
        putAll(x, 0, 0, 2);
        dueWrites("two", x, 0, 1, 2, 0);
        x.put(1, 1);
        dueWrites("then one, in the other table", x, 1, 0);
        x.put(0, 1);
        dueWrites("then two", x, 0, 2, 1, 1);
    }

    private static MatchRows withWrites() {
        MatchRows x = keys(3, 5, 1);
        x.last(2);
        putAll(x, 0, 3, 0, 1);
        dueWrites("there are two", x, 3, 2, 1, 1);
        return x;
    }

    private static void p13NoneByStrike() {
        MatchRows x = withWrites();
        x.strike(0, 0);
        dueWrites("struck", x);
    }

    private static void p13NoneByMelt() {
        MatchRows x = withWrites();
        due("melt", x.melt(0, 0, 1), 0);
        dueWrites("melted", x);
    }

    private static void p13NoneByUndo() {
        MatchRows x = withWrites();
        due("undo", x.undo(), 2);
        dueWrites("undone", x);
    }

    private static void p13NoneByBuild() {
        MatchRows x = withWrites();
        due("build", x.build(0), 3);
        dueWrites("built", x);
        x = withWrites();
        strikeAll(x, 0, 0, 1, 3);
        x.put(1, 3);
        x.strike(1, 3);
        due("of an empty table", x.build(0), 0);
        dueWrites("built", x);
    }

    private static void p13NoneByPlaces() {
        MatchRows x = withWrites();
        x.places(6);
        dueWrites("places", x);
    }

    private static void p13TheyStayByAllOthers() {
        MatchRows x = withWrites();
        x.over();
        x.drop(2);
        x.act(0, 3);
        x.rule(0, 0, 0, 0);
        x.last(0);
        x.span(0, 6, 0, 0);
        x.writes(1, 0);
        x.spare(0, 50);
        x.differ();
        x.right(0);
        dueWrites("they stay", x, 3, 2, 1, 1);
    }

    // ---- promise 14: "TO STRIKE: the PLACE that is free. BAD; NOT: it does not stand there."

    private static void p14FromAFullToAnEmptyTable() {
        MatchRows x = keys(6, 1, 1);
        putAll(x, 1, 0, 1, 2, 3, 4, 5);
        for (int r : new int[] {5, 0, 2, 1, 4, 3}) {
            due("strike(1, " + r + ")", x.strike(1, r), r);
            due("it is free", x.at(1, r), -2);
            due("it does not stand there", x.strike(1, r), -2);
        }
        due("empty", x.count(2), 0);
        due("the rules stay", x.count(0), 6);
    }

    private static void p14NotIfItStandsInTheOther() {
        MatchRows x = keys(1, 1, 1);
        x.put(0, 0);
        due("the other table", x.strike(1, 0), -2);
        due("this one", x.strike(0, 0), 0);
        due("no more", x.strike(0, 0), -2);
    }

    // ---- promise 15: "The RULE at a PLACE of a TABLE; -2: it is free. BAD."

    private static void p15TheFirstAndTheLastPlace() {
        MatchRows x = keys(2, 1, 1);
        x.places(2);
        addKeys(x, 2, 1, 1);
        x.put(0, 1);
        dueRow("one", x, 0, 1, -2, -1);
        x.put(0, 0);
        dueRow("full", x, 0, 1, 0, -1);
        dueRow("the other", x, 1, -2, -2, -1);
        due("ahead of the first", x.at(0, -1), -1);
        due("a place of six, not of two", x.at(0, 5), -1);
    }

    // ---- promise 16: "JUDGED by a TABLE (2: by the one that is live). BAD less 100 (-101)."

    private static void p16ByTheOneThatIsLive() {
        MatchRows x = keys(2, 1, 1);
        x.act(1, 0);
        x.put(0, 0);
        x.put(1, 1);
        due("0 is live", x.judged(2, 0), 1);
        due("0 is live", x.judged(2, 1), -1);
        x.over();
        due("1 is live", x.judged(2, 0), -1);
        due("1 is live", x.judged(2, 1), 0);
        x.undo();
        due("0 is live again", x.judged(2, 0), 1);
    }

    private static void p16BadIsNotNone() {
        MatchRows x = new MatchRows();
        due("none", x.judged(1, 31), -1);
        due("no key", x.judged(1, 32), -101);
        due("no key", x.judged(2, -1), -101);
        due("no table", x.judged(3, 31), -101);
        due("no table", x.judged(-1, 31), -101);
    }

    // ---- promise 17: "How many KEYS are RIGHT. BAD."

    private static void p17AllAreRight() {
        MatchRows x = farTable();
        due("five stand", x.right(0), 32);
        due("none stands", x.right(1), 32);
        x.build(0);
        due("built", x.right(1), 32);
        due("no table", x.right(2), -1);
        due("no table", x.right(-1), -1);
    }

    // ---- promise 18: "Whether a RULE is COVERED in a TABLE: 1, 0. BAD; NOT: it does not stand there."

    private static void p18NotIfItDoesNotStandThere() {
        MatchRows x = new MatchRows();
        x.rule(0, 0, 9, 1);
        x.rule(3, 31, 5, 1);
        due("none stands", x.covered(0, 1), -2);
        x.put(0, 0);
        due("it would be covered, if it stood there", x.covered(0, 1), -2);
        x.put(0, 1);
        due("it is", x.covered(0, 1), 1);
        due("not in the other one", x.covered(1, 1), -2);
        x.put(1, 1);
        due("there it stands alone", x.covered(1, 1), 0);
        x.strike(0, 0);
        due("now here too", x.covered(0, 1), 0);
    }

    // ---- promise 19: "The first KEY that a RULE FITS and none that is HIGHER and stands in a TABLE;
    // -2: there is none. BAD. (Whether the RULE stands there or not.)"

    private static void p19TheFirstAndTheLastKey() {
        MatchRows x = new MatchRows();
        x.rule(0, 31, 9, 1);
        x.rule(31, 31, 9, 1);
        x.last(1);
        due("the first key", x.shown(0, 0), 0);
        due("the last key", x.shown(0, 1), 31);
        due("all", x.shown(0, 2), 0);
        x.put(0, 0);
        due("all but the first key", x.shown(0, 2), 1);
    }

    private static void p19ThereIsNone() {
        MatchRows x = new MatchRows();
        x.rule(0, 16, 9, 1);
        x.rule(16, 24, 9, 1);
        x.rule(24, 28, 9, 1);
        x.rule(28, 30, 9, 1);
        x.rule(30, 31, 9, 1);
        x.rule(31, 31, 9, 1);
        x.last(1);
        putAll(x, 0, 0, 1, 2, 3, 4);
        due("key 31 is left", x.shown(0, 6), 31);
        x.put(0, 5);
        due("six together hide all", x.shown(0, 6), -2);
        due("not in the other table", x.shown(1, 6), 0);
    }

    private static void p19StandingOrNot() {
        MatchRows x = nested(3, 6);
        x.put(0, 1);
        due("it stands nowhere", x.shown(0, 0), 1);
        x.put(0, 0);
        due("it stands there", x.shown(0, 0), 1);
        x.put(1, 0);
        due("in the other one", x.shown(1, 0), 0);
        due("the higher one stands", x.shown(0, 1), 0);
        due("the highest stands nowhere", x.shown(0, 2), 0);
    }

    // ---- promise 20: "SPARE. BAD; FULL: no PLACE is free."

    private static void p20OneFreeAndFull() {
        MatchRows x = nested(6, 6);
        for (int r = 0; r < 6; r++) {
            due("below all " + r, x.spare(0, 4), 1);
            due("above all " + r, x.spare(0, 99), r + 1);
            x.put(0, r);
        }
        due("full", x.spare(0, 99), -3);
        due("full", x.spare(0, 0), -3);
        due("the other is empty", x.spare(1, 99), 1);
    }

    private static void p20TheGreatest() {
        due("the greatest of all", farTable().spare(0, 15), 12);
    }

    private static void p20NoRuleIsMade() {
        MatchRows x = keys(16, 1, 1);
        x.put(0, 0);
        due("with all rules in use", x.spare(0, 9), 2);
        due("with all rules in use", x.spare(0, 1), 1);
        due("none is made", x.count(0), 16);
        dueRow("none is put", x, 0, 0, -2, -2, -2, -2, -2);
        due("nothing more to undo", x.count(5), 1);
    }

    // ---- promise 21: "MELTED: the number of the one that is left. BAD: also they are one, KIND 2; NOT."

    private static void p21TheyAreOne() {
        MatchRows x = keys(2, 1, 1);
        due("it stands nowhere", x.melt(0, 1, 1), -1);
        x.put(0, 1);
        due("it stands there", x.melt(0, 1, 1), -1);
        x.put(1, 1);
        due("it stands in both", x.melt(0, 1, 1), -1);
    }

    private static void p21NotIfOneDoesNotStandThere() {
        MatchRows x = keys(2, 1, 1);
        due("none", x.melt(0, 0, 1), -2);
        x.put(0, 0);
        due("the first alone", x.melt(0, 0, 1), -2);
        due("the second alone", x.melt(0, 1, 0), -2);
        x.put(1, 1);
        due("one in each", x.melt(0, 0, 1), -2);
        due("one in each", x.melt(1, 0, 1), -2);
        x.strike(1, 1);
        x.put(0, 1);
        due("both", x.melt(0, 0, 1), 0);
        due("no more", x.melt(0, 0, 1), -2);
    }

    private static void p21FromOneKeyToAll() {
        MatchRows x = new MatchRows();
        x.rule(0, 31, 6, 1);
        x.rule(1, 31, 1, 1);
        x.rule(2, 30, 2, 1);
        x.rule(4, 28, 3, 1);
        x.rule(8, 24, 4, 1);
        x.rule(16, 16, 5, 1);
        putAll(x, 0, 0, 1, 2, 3, 4, 5);
        for (int r = 1; r < 6; r++) {
            due("melt(0, 0, " + r + ")", x.melt(0, 0, r), 0);
            due("its mask", x.told(0, 2), 32 - (1 << r) & 31);
            due("its value", x.told(0, 1), 0);
        }
        due("it is left alone", x.count(1), 1);
        due("it fits all", x.judged(0, 31), 1);
        for (int r = 5; r > 0; r--) {
            x.undo();
            due("undone: its mask", x.told(0, 2), 32 - (1 << r - 1) & 31);
        }
        dueRow("all are back", x, 0, 0, 1, 2, 3, 4, 5);
    }

    private static void p21TheMaskIsAlikeInAllThatAsk() {
        MatchRows x = keys(3, 5, 1);
        x.rule(1, 31, 9, 2);
        putAll(x, 0, 0, 1);
        due("ahead of it", x.overlap(0, 3), 0);
        x.melt(0, 0, 1);
        due("behind it", x.overlap(0, 3), 1);
        due("a higher one moves it", x.put(0, 3), 2);
        dueWrites("as for each rule", x, 0, 1, 3, 0);
        x.undo();
        x.undo();
        due("undone", x.overlap(0, 3), 0);
    }

    // ---- promise 22: "CHANGED OVER: the TABLE that is live."

    private static void p22ToAndFro() {
        MatchRows x = new MatchRows();
        for (int i = 1; i <= 5; i++) {
            due("over " + i, x.over(), i % 2);
            due("live", x.count(4), i % 2);
        }
    }

    // ---- promise 23: "How many KEYS are JUDGED unlike by both TABLES."

    private static void p23FromNoneToAll() {
        MatchRows x = new MatchRows();
        due("both empty", x.differ(), 0);
        x.last(0);
        x.last(0);
        x.last(1);
        x.rule(31, 31, 1, 1);
        x.put(0, 0);
        due("an act 0 and none", x.differ(), 32);
        x.put(1, 1);
        due("two rules of like acts", x.differ(), 0);
        x.strike(1, 1);
        x.put(1, 2);
        due("unlike acts", x.differ(), 32);
        x.put(0, 3);
        due("key 31 is alike", x.differ(), 31);
        x.strike(1, 2);
        x.put(1, 0);
        due("key 31 alone", x.differ(), 1);
    }

    // ---- promise 24: "All RULES of a TABLE are PUT in the other one, which is empty, the HIGHER
    // first: how many WRITES. BAD; NOT: it is not empty."

    private static void p24OfAnEmptyTable() {
        MatchRows x = new MatchRows();
        due("none", x.build(0), 0);
        due("none", x.build(1), 0);
        due("accepted, so they can be undone", x.count(5), 2);
        due("undo", x.undo(), 1);
        due("undo", x.undo(), 0);
    }

    private static void p24OfAFullTable() {
        for (int n = 2; n <= 6; n++) {
            MatchRows x = nested(n, n);
            for (int r = 0; r < n; r++) {
                x.put(1, r);
            }
            due("build(1) of " + n, x.build(1), n);
            due("all stand there", x.count(1), n);
            due("and here", x.count(2), n);
            due("alike", x.differ(), 0);
            due("it is not empty now", x.build(1), -2);
            due("nor is this one", x.build(0), -2);
        }
    }

    private static void p24TheHigherFirst() {
        MatchRows x = new MatchRows();
        int[] ranks = {5, 9, 5, 0, 99, 9};
        for (int r = 0; r < 6; r++) {
            x.rule(r, 31, ranks[r], r);
        }
        putAll(x, 0, 0, 1, 2, 3, 4, 5);
        due("build", x.build(0), 6);
        dueRow("of like ranks the lesser number", x, 1, 4, 1, 5, 0, 2, 3);
    }

    private static void p24NotIfOneStandsThere() {
        MatchRows x = keys(2, 1, 1);
        x.put(0, 0);
        x.put(1, 1);
        due("one stands there", x.build(0), -2);
        due("one stands there", x.build(1), -2);
        x.strike(1, 1);
        due("this one is empty, the other is not", x.build(1), -2);
        due("the other one is empty", x.build(0), 1);
    }

    private static void p24LiveStays() {
        MatchRows x = keys(1, 1, 1);
        x.put(0, 0);
        x.build(0);
        due("0 is live", x.count(4), 0);
        x.over();
        x.strike(0, 0);
        x.build(1);
        due("1 is live", x.count(4), 1);
    }

    // ---- promise 25: "The latest accepted put(), strike(), melt(), over(), build() is taken back (20
    // at most, none twice): how many are left. NOT: there is none. (RULES dropped or made since stay
    // so; by places(), drop(), act() nothing can be undone any more.)"

    private static void p25Put() {
        MatchRows x = nested(5, 6);
        putAll(x, 0, 0, 1, 2, 3);
        dueRow("four", x, 0, 3, 2, 1, 0, -2, -2);
        due("all move", x.put(0, 4), 5);
        due("undo", x.undo(), 4);
        dueRow("all are back", x, 0, 3, 2, 1, 0, -2, -2);
        due("the rule is there still", x.told(4, 0), 0);
    }

    private static void p25Strike() {
        MatchRows x = nested(3, 3);
        putAll(x, 0, 0, 1, 2);
        x.strike(0, 1);
        due("undo", x.undo(), 3);
        dueRow("full again", x, 0, 2, 1, 0, -1);
    }

    private static void p25Melt() {
        MatchRows x = new MatchRows();
        x.rule(5, 31, 1, 1);
        x.rule(4, 31, 1, 1);
        putAll(x, 1, 0, 1);
        x.melt(1, 1, 0);
        dueTold("melted", x, 0, 0, 4, 30, 1, 1, -1, 0);
        due("undo", x.undo(), 2);
        dueTold("the mask, the value are back", x, 0, 0, 5, 31, 1, 1, -1, 0);
        dueRow("both stand", x, 1, 0, 1, -2);
    }

    private static void p25Over() {
        MatchRows x = new MatchRows();
        x.over();
        x.over();
        due("undo", x.undo(), 1);
        due("1 is live", x.count(4), 1);
        due("undo", x.undo(), 0);
        due("0 is live", x.count(4), 0);
    }

    private static void p25Build() {
        MatchRows x = nested(6, 6);
        putAll(x, 0, 0, 1, 2, 3, 4, 5);
        x.build(0);
        due("undo: six writes are one act", x.undo(), 6);
        dueRow("empty", x, 1, NO_ROW);
        dueRow("as it was", x, 0, 5, 4, 3, 2, 1, 0);
    }

    private static void p25TwentyAtMost() {
        MatchRows x = keys(2, 1, 1);
        x.put(0, 0);
        x.put(0, 1);
        for (int i = 3; i <= 20; i++) {
            x.over();
        }
        due("twenty", x.count(5), 20);
        for (int left = 19; left >= 0; left--) {
            due("undo", x.undo(), left);
        }
        dueRow("the first of twenty is undone", x, 0, NO_ROW);
        due("no more", x.undo(), -2);
    }

    private static void p25NotThe21st() {
        MatchRows x = keys(2, 1, 1);
        x.put(0, 0);
        x.put(0, 1);
        for (int i = 3; i <= 21; i++) {
            x.over();
        }
        due("twenty still", x.count(5), 20);
        for (int left = 19; left >= 0; left--) {
            due("undo", x.undo(), left);
        }
        dueRow("the second of 21 is undone, the first is not", x, 0, 0, -2, -2);
        due("no more", x.undo(), -2);
        dueRow("it stays", x, 0, 0, -2, -2);
    }

    private static void p25FarMoreThanTwenty() {
        MatchRows x = keys(2, 1, 1);
        x.put(0, 0);
        for (int i = 0; i < 50; i++) {
            x.over();
            x.put(1, 1);
            x.strike(1, 1);
        }
        due("twenty", x.count(5), 20);
        for (int left = 19; left >= 0; left--) {
            due("undo", x.undo(), left);
            int acts = 150 - 20 + left;
            int overs = (acts + 2) / 3;
            due(left + " are left: at(1, 0)", x.at(1, 0), acts % 3 == 2 ? 1 : -2);
            due(left + " are left: live", x.count(4), overs % 2);
        }
        due("no more", x.undo(), -2);
    }

    private static void p25NoneTwice() {
        MatchRows x = keys(3, 1, 1);
        putAll(x, 0, 0, 1);
        due("the second", x.undo(), 1);
        x.put(0, 2);
        due("the third", x.undo(), 1);
        dueRow("the second is not undone again", x, 0, 0, -2);
        due("the first", x.undo(), 0);
        dueRow("the first", x, 0, -2, -2);
        due("no undo is undone", x.undo(), -2);
        dueRow("the first", x, 0, -2, -2);
    }

    private static void p25NotIfThereIsNone() {
        MatchRows x = keys(1, 1, 1);
        due("only a rule was made", x.undo(), -2);
        x.put(0, 0);
        due("one", x.undo(), 0);
        due("none is left", x.undo(), -2);
    }

    private static void p25RefusedOnesAreNoActs() {
        MatchRows x = keys(2, 1, 1);
        x.put(0, 0);
        x.put(0, 0);
        x.put(2, 0);
        x.strike(0, 1);
        x.melt(0, 0, 1);
        x.build(1);
        due("one act", x.count(5), 1);
        due("undo", x.undo(), 0);
        due("the put", x.at(0, 0), -2);
    }

    private static void p25RulesMadeSinceStay() {
        MatchRows x = new MatchRows();
        x.rule(4, 31, 5, 1);
        x.rule(5, 31, 5, 1);
        putAll(x, 0, 0, 1);
        x.melt(0, 0, 1);
        x.rule(9, 31, 5, 1);
        x.last(2);
        x.span(0, 0, 5, 3);
        due("made rules are no acts", x.count(5), 3);
        due("undo", x.undo(), 2);
        due("undo", x.undo(), 1);
        due("undo", x.undo(), 0);
        dueTold("a rule", x, 2, 0, 9, 31, 5, 1, -1, -1);
        dueTold("a last", x, 3, 2, 0, 0, 0, 2, -1, -1);
        dueTold("a span", x, 4, 1, 0, 31, 5, 3, -1, -1);
        dueTold("the first of all", x, 0, 0, 4, 31, 5, 1, -1, -1);
        due("five rules", x.count(0), 5);
    }

    private static void p25NoMoreByPlaces() {
        MatchRows x = keys(2, 1, 1);
        x.put(0, 0);
        x.places(6);
        due("undo", x.undo(), -2);
        due("count(5)", x.count(5), 0);
    }

    private static void p25NoMoreByDrop() {
        MatchRows x = keys(3, 1, 1);
        putAll(x, 0, 0, 1);
        due("one that stands: refused", x.drop(1), -2);
        due("two still", x.count(5), 2);
        due("drop", x.drop(2), 1);
        due("count(5)", x.count(5), 0);
        due("undo", x.undo(), -2);
        dueRow("both stay", x, 0, 0, 1, -2);
        x.over();
        due("what comes behind it can be undone", x.undo(), 0);
    }

    private static void p25NoMoreByAct() {
        MatchRows x = keys(2, 1, 1);
        x.last(1);
        putAll(x, 0, 0, 1);
        due("of a last: refused", x.act(2, 1), -13);
        due("two still", x.count(5), 2);
        due("act", x.act(0, 7), 1);
        due("count(5)", x.count(5), 0);
        due("undo", x.undo(), -2);
        dueRow("both stay", x, 0, 0, 1, -2);
        x.strike(0, 0);
        due("what comes behind it can be undone", x.undo(), 0);
        due("the act stays", x.told(0, 4), 7);
    }

    // ---- promise 26: "How many: 0 RULES, 1, 2 that stand in TABLE 0, 1, 3 PLACES, 4 the TABLE that is
    // live, 5 what can be undone. BAD."

    private static void p26TheLeast() {
        MatchRows x = new MatchRows();
        x.places(2);
        dueCounts("the least", x, 0, 0, 0, 2, 0, 0, -1);
    }

    private static void p26TheMost() {
        dueCounts("the most", fullOfAll(), 16, 6, 6, 6, 1, 20, -1);
    }

    private static void p26NoSuchNumber() {
        MatchRows x = new MatchRows();
        due("ahead of 0", x.count(-1), -1);
        due("behind 5", x.count(6), -1);
        due("far off", x.count(MOST), -1);
        due("far off", x.count(LEAST), -1);
    }
}
