/**
 * "Terms": each sentence that names a boundary case has a test of its own, under its words. What is
 * due is counted here from the words, not from the class.
 */
public final class TermsTests extends Due {
    private TermsTests() {
    }

    public static void main(String[] args) {
        runAll(TermsTests.class);
    }

    private static boolean fits(int value, int mask, int key) {
        return (value & mask) == (key & mask);
    }

    // ---- refusals

    /** "Refusals are answers: BAD -1, NOT -2, FULL -3, CAST -13." */
    private static void refusalsAreAnswers() {
        due("BAD", MatchRows.BAD, -1);
        due("NOT", MatchRows.NOT, -2);
        due("FULL", MatchRows.FULL, -3);
        due("CAST", MatchRows.CAST, -13);
        MatchRows x = new MatchRows();
        due("a number that is not as told", x.places(1), -1);
        due("a number that names nothing", x.drop(0), -1);
        due("not as told", x.undo(), -2);
        x.last(0);
        due("a rule of another kind", x.act(0, 0), -13);
        addKeys(x, 15, 1, 1);
        due("full", x.last(0), -3);
    }

    // ---- "What it is"

    /** "each KEY judged rightly between any two of them": the rows are followed write by write. */
    private static void eachKeyIsJudgedRightlyBetweenAnyTwoWrites() {
        MatchRows far = farTable();
        followPut(far, far.rule(0, 0, 15, 15), 12);
        MatchRows x = nested(6, 6);
        for (int r = 0; r < 6; r++) {
            followPut(x, r, r + 1);
        }
        x.strike(0, 3);
        followPut(x, x.last(9), 4);
    }

    private static void followPut(MatchRows x, int rule, int writes) {
        int[][] rules = valuesMasksRanks(x);
        int[] row = row(x, 0);
        due("put(0, " + rule + ")", x.put(0, rule), writes);
        for (int i = 0; i < writes; i++) {
            int moved = x.write(i, 0);
            for (int p = 0; p < row.length; p++) {
                row[p] = row[p] == moved ? -2 : row[p];
            }
            row[x.write(i, 1)] = moved;
            for (int key = 0; key < KEYS; key++) {
                dueFirst("rule " + rule + ", behind write " + i + ", key " + key, rules, row, key);
            }
        }
        dueRow("as the writes say", x, 0, row);
    }

    /** Asked once for each put: an object is used for 512 calls at most. */
    private static int[][] valuesMasksRanks(MatchRows x) {
        int[][] rules = new int[x.count(0)][];
        for (int r = 0; r < rules.length; r++) {
            rules[r] = new int[] {x.told(r, 1), x.told(r, 2), x.told(r, 3)};
        }
        return rules;
    }

    /** The first one in the row that a key fits is the highest of all that it fits. */
    private static void dueFirst(String when, int[][] rules, int[] row, int key) {
        int first = -1;
        int highest = -1;
        for (int r : row) {
            if (r >= 0 && fits(rules[r][0], rules[r][1], key)) {
                first = first < 0 ? r : first;
                boolean higher = highest < 0 || rules[r][2] > rules[highest][2]
                    || rules[r][2] == rules[highest][2] && r < highest;
                highest = higher ? r : highest;
            }
        }
        due(when + ": the rule that judges", first, highest);
    }

    // ---- 1: keys, rules, tables

    /** "KEYS are 0 .. 31." */
    private static void keysAre0To31() {
        MatchRows x = new MatchRows();
        x.last(7);
        x.put(0, 0);
        due("the least key", x.judged(0, 0), 7);
        due("less", x.judged(0, -1), -101);
        due("the greatest key", x.judged(0, 31), 7);
        due("greater", x.judged(0, 32), -101);
        due("the least key of a span", x.span(0, 0, 1, 1), 1);
        due("less", x.span(-1, 0, 1, 1), -1);
        due("less", x.span(-1, -1, 1, 1), -1);
        due("the greatest key of a span", x.span(31, 31, 1, 1), 1);
        due("greater", x.span(31, 32, 1, 1), -1);
        due("greater", x.span(32, 32, 1, 1), -1);
        due("from the least to the greatest", x.span(0, 31, 1, 1), 1);
        due("no more were made", x.count(0), 4);
    }

    /** "RULES have numbers 0 .. 15." */
    private static void rulesHaveNumbers0To15() {
        MatchRows x = keys(16, 1, 3);
        due("spare of a rule with a number above all", x.spare(0, 1), 1);
        int[] wrong = {-1, 16, LEAST, MOST};
        for (int r : new int[] {0, 15}) {
            due("told", x.told(r, 1), r);
            due("act", x.act(r, 3), 3);
            due("overlap", x.overlap(r, r), 1);
            due("higher", x.higher(r, r), 0);
            due("shown", x.shown(0, r), r);
            due("writes", x.writes(0, r), 1);
            due("put", x.put(0, r), 1);
            due("covered", x.covered(0, r), 0);
            due("strike", x.strike(0, r), 0);
        }
        for (int r : wrong) {
            due("told of " + r, x.told(r, 1), -101);
            due("act of " + r, x.act(r, 3), -1);
            due("overlap of " + r, x.overlap(r, 0), -1);
            due("overlap with " + r, x.overlap(0, r), -1);
            due("higher of " + r, x.higher(r, 0), -1);
            due("higher with " + r, x.higher(0, r), -1);
            due("shown of " + r, x.shown(0, r), -1);
            due("writes of " + r, x.writes(0, r), -1);
            due("put of " + r, x.put(0, r), -1);
            due("covered of " + r, x.covered(0, r), -1);
            due("strike of " + r, x.strike(0, r), -1);
            due("melt of " + r, x.melt(0, r, 0), -1);
            due("melt with " + r, x.melt(0, 0, r), -1);
            due("drop of " + r, x.drop(r), -1);
        }
        due("drop of the greatest", x.drop(15), 1);
        due("drop of the least", x.drop(0), 1);
    }

    /** "BAD: a number names nothing": a number that a rule might have, and none has. */
    private static void aNumberNotInUseNamesNothing() {
        MatchRows x = keys(16, 1, 3);
        x.put(0, 8);
        x.drop(9);
        due("told", x.told(9, 0), -101);
        due("drop", x.drop(9), -1);
        due("act", x.act(9, 1), -1);
        due("overlap of it", x.overlap(9, 8), -1);
        due("overlap with it", x.overlap(8, 9), -1);
        due("overlap with itself", x.overlap(9, 9), -1);
        due("higher of it", x.higher(9, 8), -1);
        due("higher with it", x.higher(8, 9), -1);
        due("higher with itself", x.higher(9, 9), -1);
        due("put", x.put(0, 9), -1);
        due("writes", x.writes(0, 9), -1);
        due("strike", x.strike(0, 9), -1);
        due("covered", x.covered(0, 9), -1);
        due("shown", x.shown(0, 9), -1);
        due("melt of it", x.melt(0, 9, 8), -1);
        due("melt with it", x.melt(0, 8, 9), -1);
    }

    /** "a VALUE and a MASK (0 .. 31 each ..)". */
    private static void valuesAndMasksAre0To31() {
        MatchRows x = new MatchRows();
        due("a value below", x.rule(-1, 31, 1, 1), -1);
        due("a value above", x.rule(32, 31, 1, 1), -1);
        due("a mask below", x.rule(31, -1, 1, 1), -1);
        due("a mask above", x.rule(31, 32, 1, 1), -1);
        due("none was made", x.count(0), 0);
        due("the least value", x.rule(0, 31, 1, 1), 0);
        due("the greatest value", x.rule(31, 31, 1, 1), 1);
        due("the least mask", x.rule(31, 0, 1, 1), 2);
        dueTold("least value", x, 0, 0, 0, 31);
        dueTold("greatest value", x, 1, 0, 31, 31);
        dueTold("least mask", x, 2, 0, 0, 0);
    }

    /** "bits of the VALUE that the MASK has not are not looked at". */
    private static void bitsOffTheMaskAreNotLookedAt() {
        MatchRows x = new MatchRows();
        x.rule(31, 0, 9, 1);
        x.rule(21, 10, 9, 2);
        x.rule(0, 10, 9, 3);
        x.rule(10, 31, 9, 4);
        due("a mask that looks at none: value told", x.told(0, 1), 0);
        due("a mask that has none of the value's bits: value told", x.told(1, 1), 0);
        due("they fit the same keys", x.overlap(1, 2), 1);
        due("it looks at both bits of key 10", x.overlap(1, 3), 0);
        due("the one that looks at none", x.overlap(0, 3), 1);
        due("the first key", x.shown(0, 0), 0);
        due("the first key", x.shown(0, 1), 0);
        x.put(0, 1);
        for (int key = 0; key < KEYS; key++) {
            due("judged(0, " + key + ")", x.judged(0, key), fits(0, 10, key) ? 2 : -1);
        }
    }

    /** "a RANK (0 .. 99)". */
    private static void ranksAre0To99() {
        MatchRows x = new MatchRows();
        due("a rule below", x.rule(0, 31, -1, 1), -1);
        due("a rule above", x.rule(0, 31, 100, 1), -1);
        due("a span below", x.span(0, 0, -1, 1), -1);
        due("a span above", x.span(0, 0, 100, 1), -1);
        due("spare below", x.spare(0, -1), -1);
        due("spare above", x.spare(0, 100), -1);
        due("none was made", x.count(0), 0);
        due("the least rule", x.rule(0, 31, 0, 1), 0);
        due("the greatest rule", x.rule(0, 31, 99, 1), 1);
        due("the least span", x.span(0, 0, 0, 1), 1);
        due("the greatest span", x.span(0, 0, 99, 1), 1);
        due("the least spare", x.spare(0, 0), 1);
        due("the greatest spare", x.spare(0, 99), 1);
        due("told", x.told(0, 3), 0);
        due("told", x.told(1, 3), 99);
        due("told", x.told(2, 3), 0);
        due("told", x.told(3, 3), 99);
    }

    /** "an ACT (0 .. 15)". */
    private static void actsAre0To15() {
        MatchRows x = new MatchRows();
        for (int wrong : new int[] {-1, 16}) {
            due("rule", x.rule(0, 31, 1, wrong), -1);
            due("last", x.last(wrong), -1);
            due("span", x.span(0, 0, 1, wrong), -1);
        }
        due("none was made", x.count(0), 0);
        for (int act : new int[] {0, 15}) {
            int r = x.rule(act, 31, 1, act);
            due("of a rule", x.told(r, 4), act);
            r = x.last(act);
            due("of a last", x.told(r, 4), act);
            due("a span", x.span(act, act, 1, act), 1);
            due("of a span", x.told(r + 1, 4), act);
        }
        due("act below", x.act(0, -1), -1);
        due("act above", x.act(0, 16), -1);
        due("the least becomes the greatest", x.act(0, 15), 0);
        due("the greatest becomes the least", x.act(0, 0), 15);
        x.put(0, 0);
        due("an act 0 is no -1", x.judged(0, 0), 0);
        due("none", x.judged(0, 1), -1);
    }

    /** "they are of KINDS: 0 RULE, 1 SPAN (a row of one), 2 LAST (MASK 0, RANK 0: it fits all)". */
    private static void kindsAre0To2() {
        MatchRows x = new MatchRows();
        x.rule(0, 0, 0, 4);
        x.span(1, 6, 3, 5);
        x.last(6);
        dueTold("a rule that fits all, of rank 0, is no last", x, 0, 0, 0, 0, 0, 4);
        dueTold("row 1", x, 1, 1, 1, 31, 3, 5);
        dueTold("row 2 .. 3", x, 2, 1, 2, 30, 3, 5);
        dueTold("row 4 .. 5", x, 3, 1, 4, 30, 3, 5);
        dueTold("row 6", x, 4, 1, 6, 31, 3, 5);
        dueTold("last", x, 5, 2, 0, 0, 0, 6);
        due("six in all", x.count(0), 6);
    }

    /** "LAST .. it fits all". */
    private static void aLastFitsAll() {
        MatchRows x = new MatchRows();
        x.last(6);
        x.put(1, 0);
        for (int key = 0; key < KEYS; key++) {
            due("judged(1, " + key + ")", x.judged(1, key), 6);
            int r = x.rule(key, 31, 1, 1);
            due("it overlaps with the rule of key " + key, x.overlap(0, r), 1);
            x.drop(r);
        }
    }

    /** "A KEY FITS a RULE, if both are alike in all bits of the MASK." */
    private static void aKeyFitsIfAlikeInAllBitsOfTheMask() {
        for (int mask = 0; mask < 32; mask++) {
            MatchRows x = new MatchRows();
            int value = mask * 7 % 32;
            x.rule(value, mask, 1, 1);
            x.put(0, 0);
            for (int key = 0; key < KEYS; key++) {
                due("mask " + mask + ", key " + key, x.judged(0, key), fits(value, mask, key) ? 1 : -1);
            }
        }
    }

    /** "HIGHER .., if its RANK is greater, or, of like RANKS, its number is less." */
    private static void higherByRankThenByNumber() {
        MatchRows x = new MatchRows();
        x.rule(0, 31, 98, 1);
        x.rule(0, 31, 99, 1);
        x.rule(0, 31, 1, 1);
        x.rule(0, 31, 0, 1);
        for (int i = 4; i < 15; i++) {
            x.rule(0, 31, 50, 1);
        }
        x.last(1);
        due("99 and 98", x.higher(1, 0), 1);
        due("98 and 99", x.higher(0, 1), 2);
        due("1 and 0", x.higher(2, 3), 1);
        due("0 and 1", x.higher(3, 2), 2);
        due("the lesser number of a lesser rank", x.higher(2, 4), 2);
        due("numbers next to one another", x.higher(13, 14), 1);
        due("numbers next to one another", x.higher(14, 13), 2);
        due("numbers far apart", x.higher(4, 14), 1);
        due("a last has rank 0: the greater number", x.higher(15, 3), 2);
        due("a last has rank 0: the lesser rank", x.higher(15, 2), 2);
    }

    /** "Two RULES OVERLAP, if some KEY FITS both": one key is enough. */
    private static void overlapIfSomeKeyFitsBoth() {
        MatchRows x = new MatchRows();
        x.rule(16, 28, 1, 1);
        x.rule(3, 3, 1, 1);
        x.rule(20, 28, 1, 1);
        x.rule(19, 31, 1, 1);
        due("key 19 alone", x.overlap(0, 1), 1);
        due("key 19 alone", x.overlap(0, 3), 1);
        due("key 23 alone", x.overlap(1, 2), 1);
        due("none", x.overlap(0, 2), 0);
        due("none", x.overlap(3, 2), 0);
        due("itself", x.overlap(3, 3), 1);
    }

    /** The same, bit by bit: one bit that both look at is enough not to overlap. */
    private static void overlapBitByBit() {
        for (int bit = 1; bit < 32; bit *= 2) {
            MatchRows x = new MatchRows();
            x.rule(0, bit, 1, 1);
            x.rule(bit, bit, 1, 1);
            x.rule(0, 31 - bit, 1, 1);
            x.rule(bit, 31, 1, 1);
            due("bit " + bit + ": both look at it", x.overlap(0, 1), 0);
            due("bit " + bit + ": both look at it", x.overlap(0, 3), 0);
            due("bit " + bit + ": one does not look at it", x.overlap(0, 2), 1);
            due("bit " + bit + ": one does not look at it", x.overlap(2, 1), 1);
            due("bit " + bit + ": one does not look at it", x.overlap(2, 3), 1);
        }
    }

    /** "A new RULE has the least number that is not in use." */
    private static void aNewRuleHasTheLeastNumber() {
        MatchRows x = new MatchRows();
        due("none in use", x.rule(0, 31, 1, 1), 0);
        x.last(1);
        due("behind 0 and 1", x.rule(0, 31, 1, 1), 2);
        addKeys(x, 12, 1, 1);
        due("all but one in use", x.rule(0, 31, 1, 1), 15);
        due("all in use", x.rule(0, 31, 1, 1), -3);
        x.drop(15);
        x.drop(0);
        x.drop(7);
        due("0 is the least", x.last(1), 0);
        due("then 7", x.rule(0, 31, 1, 1), 7);
        due("then 15", x.rule(0, 31, 1, 1), 15);
    }

    /** "two TABLES, 0 (live at first) and 1". */
    private static void twoTablesTable0LiveAtFirst() {
        MatchRows x = new MatchRows();
        x.last(5);
        due("table 0", x.put(0, 0), 1);
        due("it is live", x.judged(2, 0), 5);
        due("it is live", x.count(4), 0);
        due("table 1", x.put(1, 0), 1);
        x.strike(0, 0);
        due("table 1 is not live", x.judged(2, 0), -1);
        for (int wrong : new int[] {-1, 2, LEAST, MOST}) {
            due("put in " + wrong, x.put(wrong, 0), -1);
            due("writes in " + wrong, x.writes(wrong, 0), -1);
            due("strike in " + wrong, x.strike(wrong, 0), -1);
            due("at of " + wrong, x.at(wrong, 0), -1);
            due("right of " + wrong, x.right(wrong), -1);
            due("covered in " + wrong, x.covered(wrong, 0), -1);
            due("shown in " + wrong, x.shown(wrong, 0), -1);
            due("spare of " + wrong, x.spare(wrong, 0), -1);
            due("build of " + wrong, x.build(wrong), -1);
        }
        due("judged by the live one", x.judged(2, 0), -1);
        due("judged by no table", x.judged(3, 0), -101);
        due("judged by no table", x.judged(-1, 0), -101);
    }

    /** "each of n PLACES (n 2 .. 6; 6 at first), free or with a RULE". */
    private static void placesAre2To6And6AtFirst() {
        MatchRows x = new MatchRows();
        due("6 at first", x.count(3), 6);
        due("one less", x.places(1), -1);
        due("one more", x.places(7), -1);
        due("6 still", x.places(2), 6);
        for (int n = 2; n <= 6; n++) {
            due("places(" + n + ")", x.places(n), n == 2 ? 2 : n - 1);
            x.last(1);
            x.put(0, 0);
            for (int table = 0; table < 2; table++) {
                due("the first place", x.at(table, 0), table == 0 ? 0 : -2);
                due("the last place of " + n, x.at(table, n - 1), -2);
                due("behind the last of " + n, x.at(table, n), -1);
                due("ahead of the first", x.at(table, -1), -1);
            }
        }
    }

    /** "a RULE stands at one PLACE of a TABLE at most". */
    private static void aRuleStandsAtOnePlaceOfATable() {
        MatchRows x = nested(6, 6);
        for (int r = 0; r < 6; r++) {
            x.put(0, r);
            due("once more", x.put(0, r), -2);
            x.put(1, 5 - r);
            due("once more", x.put(1, 5 - r), -2);
        }
        int[] seen = new int[6];
        for (int p = 0; p < 6; p++) {
            seen[x.at(0, p)]++;
            seen[x.at(1, p)] += 10;
        }
        for (int r = 0; r < 6; r++) {
            due("rule " + r + " stands once in each", seen[r], 11);
            due("at the place told", x.at(0, x.told(r, 5)), r);
            due("at the place told", x.at(1, x.told(r, 6)), r);
        }
    }

    /** "JUDGED .. the ACT of the RULE at the first PLACE (the least number) that it FITS". */
    private static void judgedByTheFirstPlace() {
        MatchRows x = nested(6, 6);
        for (int r = 0; r < 6; r++) {
            x.put(0, r);
            due("by place 0", x.judged(0, 0), r);
        }
        dueRow("full", x, 0, 5, 4, 3, 2, 1, 0);
        for (int p = 0; p < 6; p++) {
            due("by place " + p, x.judged(0, p == 5 ? 1 : 1 << 4 - p), 4 - p < 0 ? 0 : 4 - p);
        }
        strikeAll(x, 0, 1, 2, 3, 4, 5);
        due("only the last place has a rule", x.told(0, 5), 5);
        due("by the last place", x.judged(0, 0), 0);
    }

    /** "-1: there is none." */
    private static void judgedMinus1IfNoneFits() {
        MatchRows x = new MatchRows();
        for (int key = 0; key < KEYS; key++) {
            due("empty: key " + key, x.judged(0, key), -1);
        }
        x.rule(31, 31, 9, 0);
        x.put(0, 0);
        due("it does not fit", x.judged(0, 30), -1);
        due("it fits", x.judged(0, 31), 0);
        x.strike(0, 0);
        due("it is struck", x.judged(0, 31), -1);
    }

    /** "It is RIGHT, if that is the ACT of the HIGHEST .. (-1 of none)." */
    private static void rightWithNoneAndWithAll() {
        MatchRows x = nested(6, 6);
        due("empty", x.right(0), 32);
        due("empty", x.right(1), 32);
        x.put(0, 5);
        due("one", x.right(0), 32);
        putAll(x, 0, 0, 3, 2, 1, 4);
        due("full", x.right(0), 32);
        for (int key = 0; key < KEYS; key++) {
            int highest = Integer.numberOfTrailingZeros(key | 32);
            due("key " + key, x.judged(0, key), highest);
        }
    }

    /** "All TABLES are SAFE at all times." */
    private static void tablesAreSafeAtAllTimes() {
        MatchRows x = nested(6, 6);
        for (int r : new int[] {2, 4, 0, 5, 1}) {
            x.put(1, r);
            dueSafe("put " + r, x, 1);
        }
        x.strike(1, 4);
        dueSafe("strike", x, 1);
        x.put(1, 3);
        dueSafe("put in the hole", x, 1);
        x.undo();
        dueSafe("undone", x, 1);
        x.build(1);
        dueSafe("built", x, 0);
    }

    /** The same, of a table in which two are melted: the one that is left overlaps with more. */
    private static void tablesAreSafeBehindAMelting() {
        MatchRows x = new MatchRows();
        x.rule(4, 31, 9, 1);
        x.rule(5, 31, 1, 1);
        x.rule(5, 31, 5, 1);
        x.last(1);
        putAll(x, 0, 0, 3, 2, 1);
        dueRow("four stand", x, 0, 0, 2, 1, 3);
        dueSafe("four stand", x, 0);
        due("melt", x.melt(0, 0, 1), 0);
        due("the one that is left overlaps with rule 2", x.overlap(0, 2), 1);
        dueSafe("melted", x, 0);
        x.over();
        dueSafe("changed over", x, 0);
        x.undo();
        x.undo();
        due("it overlaps no more", x.overlap(0, 2), 0);
        dueSafe("undone", x, 0);
    }

    // ---- 2: writes, to put, to strike, covered, spare

    /** "a RULE moves by one WRITE to a free PLACE; the PLACE where it was is free then". */
    private static void aRuleMovesToAFreePlace() {
        MatchRows x = nested(6, 6);
        for (int r = 0; r < 6; r++) {
            int[] row = row(x, 0);
            int writes = x.put(0, r);
            due("put " + r, writes, r + 1);
            for (int i = 0; i < writes; i++) {
                int to = x.write(i, 1);
                due("rule " + r + ", write " + i + ": the place is free", row[to], -2);
                row[to] = x.write(i, 0);
                if (row[to] != r) {
                    // Each one moves by one place: where it was is free for the next one.
                    due("rule " + r + ", write " + i + ": moves", row[to - 1], row[to]);
                    row[to - 1] = -2;
                }
            }
            dueRow("as the writes say", x, 0, row);
        }
    }

    /** "TO PUT ..: the fewest WRITES": one, if a place is free where it may stand. */
    private static void toPutTakesTheFewestWrites() {
        MatchRows x = keys(7, 5, 1);
        x.rule(2, 31, 9, 2);
        x.rule(2, 31, 1, 3);
        putAll(x, 0, 0, 1, 2, 3, 4, 5);
        strikeAll(x, 0, 1, 4);
        dueRow("two holes", x, 0, 0, -2, 2, 3, -2, 5);
        due("a higher one: the hole ahead", x.put(0, 7), 1);
        dueWrites("ahead", x, 7, 1);
        due("a lower one: the hole behind", x.put(0, 8), 1);
        dueWrites("behind", x, 8, 4);
        due("full", x.put(0, 6), -3);
        x.undo();
        x.undo();
        x.strike(0, 0);
        x.put(0, 1);
        dueRow("the hole ahead is filled", x, 0, 1, -2, 2, 3, -2, 5);
        x.put(0, 6);
        dueRow("both holes ahead are filled", x, 0, 1, 6, 2, 3, -2, 5);
        due("a higher one: one must make room ahead of rule 2", x.put(0, 7), 2);
        dueWrites("rule 1 moves behind", x, 1, 4, 7, 0);
    }

    /** "of as few: the one of which the first WRITE that differs moves the RULE of the lesser number". */
    private static void ofAsFewTheLesserNumber() {
        MatchRows x = eitherMoves(0, 1);
        due("either one can make room", x.put(0, 4), 2);
        dueWrites("the higher one has the lesser number", x, 0, 0, 4, 1);
        dueRow("where it was is free", x, 0, 0, 4, 1, -2, -2, -2);
        x = eitherMoves(1, 0);
        due("either one can make room", x.put(0, 4), 2);
        dueWrites("the lower one has the lesser number", x, 0, 5, 4, 4);
        dueRow("where it was is free", x, 0, -2, -2, -2, 1, 4, 0);
        x = keys(3, 5, 1);
        x.rule(2, 31, 9, 2);
        putAll(x, 0, 0, 1, 2);
        due("each one can make room", x.put(0, 3), 2);
        dueWrites("the least number, though it does not overlap", x, 0, 3, 3, 0);
    }

    /** The same: the first writes are alike, the second ones differ. */
    private static void ofAsFewTheLesserNumberInTheSecondWrite() {
        // One lower rule must go first; then the other lower one goes behind, or the higher one ahead.
        MatchRows x = lowHighLow(0, 2, 1);
        due("the lower one has the lesser number", x.put(0, 3), 3);
        dueWrites("it goes behind", x, 0, 3, 1, 4, 3, 2);
        x = lowHighLow(0, 1, 2);
        due("the higher one has the lesser number", x.put(0, 3), 3);
        dueWrites("it goes ahead", x, 0, 3, 1, 0, 3, 1);
        x = lowHighLow(1, 0, 2);
        due("the higher one has the least number, but cannot go first", x.put(0, 3), 3);
        dueWrites("it goes ahead", x, 1, 3, 0, 0, 3, 1);
        x = lowHighLow(1, 2, 0);
        due("the second lower one has the least number", x.put(0, 3), 3);
        dueWrites("it goes first", x, 0, 3, 1, 4, 3, 2);
    }

    /** Rules at places 0, 1, 2 by their numbers: a low one, a high one, a low one; rule 3 goes between. */
    private static MatchRows lowHighLow(int low, int high, int otherLow) {
        MatchRows x = new MatchRows();
        for (int r = 0; r < 3; r++) {
            x.rule(r, 31, r == high ? 9 : 1, r);
        }
        x.rule(0, 0, 5, 3);
        putAll(x, 0, low, high, otherLow);
        dueRow("low, high, low", x, 0, low, high, otherLow, -2);
        return x;
    }

    /** ".. of like RULES to the lesser PLACE". */
    private static void ofLikeRulesToTheLesserPlace() {
        MatchRows x = new MatchRows();
        x.last(1);
        x.rule(0, 31, 5, 2);
        x.put(0, 0);
        due("put", x.put(0, 1), 2);
        dueWrites("the last could go to places 1 .. 5", x, 0, 1, 1, 0);
    }

    /** "(the last WRITE: to the lesser PLACE)". */
    private static void theLastWriteToTheLesserPlace() {
        MatchRows x = keys(8, 5, 1);
        due("six places are free", x.put(0, 0), 1);
        dueWrites("the least of six", x, 0, 0);
        putAll(x, 0, 1, 2, 3, 4, 5);
        strikeAll(x, 0, 1, 5);
        due("two places are free", x.put(0, 6), 1);
        dueWrites("the lesser of two", x, 6, 1);
        due("one place is free", x.put(0, 7), 1);
        dueWrites("the only one", x, 7, 5);
    }

    /** "each of n PLACES": the lower one could make room, were there one place more. */
    private static void noRuleMovesBehindTheLastPlace() {
        for (int n = 3; n <= 6; n++) {
            MatchRows x = new MatchRows();
            x.places(n);
            x.rule(0, 31, 1, 1);
            for (int r = 1; r < n; r++) {
                x.rule(r, 31, 9, 1);
            }
            x.rule(0, 0, 5, 2);
            for (int r = n - 1; r >= 0; r--) {
                x.put(0, r);
            }
            x.strike(0, n - 1);
            due("the lowest one stands at the last place", x.at(0, n - 1), 0);
            due("the free place is the first", x.put(0, n), 2);
            dueWrites("the higher one ahead of it moves there", x, 1, 0, n, n - 2);
        }
    }

    /** "FULL, if no PLACE is free." */
    private static void fullIfNoPlaceIsFree() {
        for (int n = 2; n <= 6; n++) {
            for (int table = 0; table < 2; table++) {
                MatchRows x = new MatchRows();
                x.places(n);
                addKeys(x, n + 1, 1, 1);
                for (int r = 0; r < n; r++) {
                    due("place " + r + " of " + n + " is free", x.put(table, r), 1);
                }
                due("none of " + n + " is free", x.put(table, n), -3);
                due("none of " + n + " is free", x.writes(table, n), -3);
                due("none of " + n + " is free", x.spare(table, 1), -3);
                due("all stand", x.count(1 + table), n);
                due("the other table is empty", x.put(1 - table, n), 1);
                x.strike(table, n - 1);
                due("one of " + n + " is free", x.put(table, n), 1);
            }
        }
    }

    /** "(There always are such WRITES, if one is free.)" The others stand as far off as can be. */
    private static void thereAreWritesIfOnePlaceIsFree() {
        for (int n = 2; n <= 6; n++) {
            MatchRows x = nested(n, n);
            for (int r = 0; r < n; r++) {
                due("of " + n + ": the highest, all move", x.put(0, r), r + 1);
            }
            x.strike(0, n - 1);
            due("place 0 is free", x.at(0, 0), -2);
            int low = x.last(9);
            due("of " + n + ": the lowest, all move", x.put(0, low), n);
            due("the highest one that stood", x.at(0, 0), n - 2);
            due("the lowest", x.at(0, n - 1), low);
        }
    }

    /** "TO STRIKE one: one WRITE": none moves. */
    private static void toStrikeMovesNone() {
        MatchRows x = nested(6, 6);
        putAll(x, 0, 0, 1, 2, 3, 4, 5);
        due("the first place", x.strike(0, 5), 0);
        dueRow("none moves", x, 0, -2, 4, 3, 2, 1, 0);
        due("the last place", x.strike(0, 0), 5);
        dueRow("none moves", x, 0, -2, 4, 3, 2, 1, -2);
        due("one between", x.strike(0, 2), 3);
        dueRow("none moves", x, 0, -2, 4, 3, -2, 1, -2);
    }

    /** "COVERED ..., if each KEY that it FITS FITS one that is HIGHER and stands there." */
    private static void coveredIfEachKeyIs() {
        MatchRows x = new MatchRows();
        x.rule(4, 28, 5, 1);
        x.rule(4, 30, 6, 2);
        x.rule(6, 31, 7, 3);
        x.rule(7, 31, 8, 4);
        x.rule(7, 31, 5, 5);
        putAll(x, 0, 0, 1, 2);
        due("all keys but one", x.covered(0, 0), 0);
        x.put(1, 3);
        due("the one that is left stands in the other table", x.covered(0, 0), 0);
        x.put(0, 4);
        due("of like rank the lesser number is higher", x.covered(0, 0), 0);
        due("so the greater number is covered", x.covered(0, 4), 1);
        x.put(0, 3);
        due("each key, by three together", x.covered(0, 0), 1);
        due("the highest is not", x.covered(0, 3), 0);
        x.strike(0, 1);
        due("two keys are left", x.covered(0, 0), 0);
    }

    /** "the greatest number of WRITES that a PUT of a RULE with any VALUE, MASK .. would take". */
    private static void spareIsTheGreatestOfAllRules() {
        MatchRows x = keys(5, 5, 1);
        due("empty", x.spare(0, 50), 1);
        putAll(x, 0, 0, 1, 2, 3, 4);
        due("below all", x.spare(0, 4), 1);
        due("above all: they must make room at place 0 only", x.spare(0, 6), 2);
        int most = 0;
        for (int value = 0; value < KEYS; value++) {
            int r = x.rule(value, value ^ 31, 6, 1);
            most = Math.max(most, x.writes(0, r));
            x.drop(r);
        }
        due("a few of them", most, 2);
    }

    /** ".. a told RANK, with a number above all": of like rank it is the lower one. */
    private static void spareHasANumberAboveAll() {
        MatchRows x = keys(16, 5, 1);
        x.put(0, 15);
        due("of like rank it comes behind rule 15", x.spare(0, 5), 1);
        due("of greater rank ahead", x.spare(0, 6), 2);
        due("of lesser rank behind", x.spare(0, 4), 1);
        x = keys(3, 99, 1);
        x.last(2);
        putAll(x, 0, 0, 1, 2);
        due("of like rank, the greatest", x.spare(0, 99), 1);
        x.put(0, 3);
        due("the last goes behind", x.spare(0, 99), 2);
        due("of like rank with the last", x.spare(0, 0), 1);
        due("above the last", x.spare(0, 1), 2);
    }

    // ---- 3: cut, melted, changed over

    /** "CUT is a span ..: into the fewest rows .., in order from a on": all spans, row by row. */
    private static void cutIntoTheFewestRows() {
        for (int a = 0; a < KEYS; a++) {
            for (int b = a; b < KEYS; b++) {
                MatchRows x = new MatchRows();
                String span = "span(" + a + ", " + b + ")";
                int rows = fewestRows(a, b);
                due(span, x.span(a, b, 1, 1), rows);
                int from = a;
                for (int r = 0; r < rows; r++) {
                    int mask = x.told(r, 2);
                    int keys = 32 - mask;
                    due(span + ": row " + r + " goes on", x.told(r, 1), from);
                    holds(span + ": row " + r + " looks at first bits alone", Integer.bitCount(keys) == 1);
                    from += keys;
                }
                due(span + ": the end", from, b + 1);
            }
        }
    }

    /** By trying all rows of first bits alike that begin at a. */
    private static int fewestRows(int a, int b) {
        if (a > b) {
            return 0;
        }
        int fewest = KEYS;
        for (int keys = 1; keys <= KEYS && a % keys == 0 && a + keys - 1 <= b; keys *= 2) {
            fewest = Math.min(fewest, 1 + fewestRows(a + keys, b));
        }
        return fewest;
    }

    /** "VALUES that differ (as far as the MASK looks) in one bit": each bit, none, two. */
    private static void meltedIfOneBitDiffers() {
        for (int bit = 1; bit < 32; bit *= 2) {
            MatchRows x = new MatchRows();
            x.rule(10, 31, 5, 1);
            x.rule(10 ^ bit, 31, 6, 1);
            putAll(x, 0, 0, 1);
            due("bit " + bit, x.melt(0, 0, 1), 1);
            dueTold("bit " + bit, x, 1, 0, 10 & ~bit, 31 - bit, 6, 1, 1, -1);
            due("bit " + bit + ": key 10", x.judged(0, 10), 1);
            due("bit " + bit + ": the other key", x.judged(0, 10 ^ bit), 1);
        }
    }

    /** The same: none, two, though all keys would be judged as before, whatever is looked at no more. */
    private static void notMeltedIfNoneOrTwoBitsDiffer() {
        MatchRows x = new MatchRows();
        x.rule(10, 30, 5, 1);
        x.rule(11, 30, 5, 1);
        x.rule(13, 30, 5, 1);
        x.last(1);
        putAll(x, 0, 0, 1, 2, 3);
        due("none: the bit that differs is not looked at", x.melt(0, 0, 1), -2);
        due("two that are looked at", x.melt(0, 0, 2), -2);
        due("two and one that is not looked at", x.melt(0, 1, 2), -2);
        due("nothing is struck", x.count(1), 4);
        x.rule(8, 30, 5, 1);
        x.put(0, 4);
        due("one, and one that is not looked at", x.melt(0, 1, 4), 1);
    }

    /** "two RULES of KIND 0, or 1". */
    private static void meltedAreRulesAndSpans() {
        MatchRows x = new MatchRows();
        x.rule(0, 31, 5, 1);
        x.rule(1, 31, 5, 1);
        x.span(2, 2, 5, 1);
        x.span(3, 3, 5, 1);
        x.last(1);
        x.last(1);
        putAll(x, 0, 0, 1, 2, 3, 4, 5);
        due("a last and a rule", x.melt(0, 4, 0), -1);
        due("a rule and a last", x.melt(0, 0, 4), -1);
        due("two lasts", x.melt(0, 4, 5), -1);
        due("two rules", x.melt(0, 0, 1), 0);
        due("two spans", x.melt(0, 2, 3), 2);
        dueTold("a rule", x, 0, 0, 0, 30);
        dueTold("a span", x, 2, 1, 2, 30);
        due("a span and a rule", x.melt(0, 2, 0), 0);
        dueTold("the rule is left, as the higher one", x, 0, 0, 0, 28);
    }

    /** "with like MASKS": of unlike ones not, though all keys would be judged as before. */
    private static void meltedAreOfLikeMasks() {
        MatchRows x = new MatchRows();
        x.rule(8, 30, 9, 1);
        x.rule(10, 31, 1, 1);
        x.rule(11, 31, 1, 1);
        x.last(1);
        putAll(x, 0, 0, 1, 2, 3);
        due("the higher one looks at one bit less", x.melt(0, 0, 1), -2);
        due("the other way round", x.melt(0, 2, 0), -2);
        due("like masks", x.melt(0, 1, 2), 1);
        due("now they are alike", x.melt(0, 0, 1), 0);
        due("two bits less", x.told(0, 2), 28);
    }

    /** "with like .. ACTS": of unlike ones not, though all keys would be judged as before. */
    private static void meltedAreOfLikeActs() {
        MatchRows x = new MatchRows();
        x.rule(4, 31, 5, 1);
        x.rule(5, 31, 5, 2);
        x.rule(4, 30, 9, 1);
        x.last(1);
        putAll(x, 0, 0, 1, 2, 3);
        due("both are covered by rule 2", x.melt(0, 0, 1), -2);
        due("the other way round", x.melt(0, 1, 0), -2);
        x.act(1, 1);
        due("like acts", x.melt(0, 0, 1), 0);
    }

    /** "the HIGHER one looks at that bit no more, the other one is struck". */
    private static void theHigherOneIsLeft() {
        for (int[] ranks : new int[][] {{5, 5, 0}, {5, 6, 1}, {6, 5, 0}, {99, 0, 0}, {0, 99, 1}}) {
            MatchRows x = new MatchRows();
            x.rule(30, 31, ranks[0], 1);
            x.rule(31, 31, ranks[1], 1);
            putAll(x, 1, 0, 1);
            due("left", x.melt(1, 1, 0), ranks[2]);
            due("it looks at that bit no more", x.told(ranks[2], 2), 30);
            due("its place is as before", x.told(ranks[2], 6), ranks[2]);
            due("the other one looks at it still", x.told(1 - ranks[2], 2), 31);
            due("the other one is struck", x.told(1 - ranks[2], 6), -1);
            due("its place is free", x.at(1, 1 - ranks[2]), -2);
            due("it is a rule still", x.count(0), 2);
        }
    }

    /** "if each KEY is JUDGED by that TABLE as before; NOT else": one key is enough. */
    private static void notMeltedIfAKeyIsJudgedOtherwise() {
        for (int key = 0; key < KEYS; key++) {
            MatchRows x = new MatchRows();
            x.rule(key ^ 4, 31, 9, 1);
            x.rule(key, 31, 1, 1);
            x.rule(key, 31, 5, 2);
            putAll(x, 0, 0, 2, 1);
            due("key " + key + " has act 2", x.judged(0, key), 2);
            due("key " + key + " would have act 1", x.melt(0, 0, 1), -2);
            due("none is struck", x.count(1), 3);
            x.strike(0, 2);
            due("key " + key + " has act 1 already", x.melt(0, 0, 1), 0);
        }
    }

    /** "NOT else, or if the TABLE would not be SAFE." */
    private static void notMeltedIfItWouldNotBeSafe() {
        MatchRows x = new MatchRows();
        x.rule(5, 31, 5, 1);
        x.rule(4, 31, 9, 1);
        x.rule(5, 31, 1, 1);
        putAll(x, 0, 0, 1, 2);
        dueRow("the highest one in the middle", x, 0, 0, 1, 2);
        due("it would stand behind rule 0", x.melt(0, 1, 2), -2);
        due("its mask is as before", x.told(1, 2), 31);
        due("the other one stands still", x.told(2, 5), 2);
        x.strike(0, 0);
        due("rule 0 is gone", x.melt(0, 1, 2), 1);
    }

    /** "RULES that stand in both TABLES are not MELTED (NOT)." */
    private static void notMeltedIfTheyStandInBothTables() {
        MatchRows x = keys(2, 5, 1);
        putAll(x, 0, 0, 1);
        putAll(x, 1, 0, 1);
        due("both in both", x.melt(0, 0, 1), -2);
        due("both in both", x.melt(1, 0, 1), -2);
        x.strike(1, 0);
        due("the lower one in both", x.melt(0, 0, 1), -2);
        due("one does not stand in table 1", x.melt(1, 0, 1), -2);
        x.put(1, 0);
        x.strike(1, 1);
        due("the higher one in both", x.melt(0, 0, 1), -2);
        x.strike(1, 0);
        due("none in both", x.melt(0, 0, 1), 0);
    }

    /** "CHANGED OVER: the other TABLE is live, in one act": no rule moves. */
    private static void changedOverInOneAct() {
        MatchRows x = keys(2, 5, 7);
        x.put(0, 0);
        x.put(1, 1);
        due("over", x.over(), 1);
        due("table 1 judges", x.judged(2, 1), 7);
        due("table 0 does not", x.judged(2, 0), -1);
        dueRow("table 0 as before", x, 0, 0, -2);
        dueRow("table 1 as before", x, 1, 1, -2);
        due("one act", x.count(5), 3);
    }

    // ---- how long an object is used

    /** "An object is used for at most 512 calls": the 512th is answered as the first one. */
    private static void the512thCallIsAnswered() {
        MatchRows x = new MatchRows();
        x.last(9);
        for (int call = 2; call <= 511; call++) {
            if (call % 2 == 0) {
                due("call " + call + ": put", x.put(0, 0), 1);
            } else {
                due("call " + call + ": strike", x.strike(0, 0), 0);
            }
        }
        due("call 512: put", x.put(0, 0), 1);
    }
}
