import java.util.Arrays;

/**
 * Two tables of rows with bits that do not matter, in which the first row that fits a key tells its
 * act. The promises that the answers keep are numbered in the document; the numbers stand at the calls.
 */
public final class MatchRows {
    public static final int BAD = -1, NOT = -2, FULL = -3, CAST = -13;

    private static final int KEYS = 32;
    private static final int BITS = 5;
    private static final int ALL_BITS = KEYS - 1;
    private static final int RULES = 16;
    private static final int RANKS = 100;
    private static final int ACTS = 16;
    private static final int LEAST_PLACES = 2;
    private static final int MOST_PLACES = 6;
    private static final int TABLES = 2;
    private static final int LIVE_TABLE = 2;
    private static final int MOST_UNDONE = 20;

    private static final int KIND_RULE = 0;
    private static final int KIND_SPAN = 1;
    private static final int KIND_LAST = 2;
    private static final int UNUSED = -1;

    private static final int NO_RULE = -1;
    private static final int NOWHERE = -1;
    private static final int NO_ACT = -1;
    private static final int NO_KEY = -2;
    private static final int FREE_PLACE = -2;
    private static final int BAD_FAR = BAD - 100;

    /** A number above all, for the rule that spare() puts in thought alone. */
    private static final int THOUGHT = RULES;
    /** Six places filled by five rules: 6 * 5 * 4 * 3 * 2 ways; fewer rules have fewer ways. */
    private static final int ARRANGEMENTS = 720;
    /** One bit for each number of five digits to the base MOST_PLACES, 32 in a word. */
    private static final int SEEN_WORDS = 243;
    /** No put takes more than 12, however five rules overlap. */
    private static final int MOST_WRITES = 16;

    private final Rules rules = new Rules();
    private final Table first = new Table(rules);
    private final Table second = new Table(rules);
    private final Search search = new Search(rules);
    private final History history = new History();
    /** The writes of the latest put(). */
    private final Plan latest = new Plan();
    /** The writes of a put that is only asked about, or that is a part of another act. */
    private final Plan asked = new Plan();
    private final int[] actsBefore = new int[KEYS];
    private int live = 0;

    /** Promise 1. */
    public MatchRows() {
    }

    // ---- 1 rules

    /** Promise 2. */
    public int places(int n) {
        if (n < LEAST_PLACES || n > MOST_PLACES) {
            return BAD;
        }
        int before = first.size();
        rules.forgetAll();
        first.empty(n);
        second.empty(n);
        live = 0;
        history.forgetAll();
        latest.forgetAll();
        return before;
    }

    /** Promise 3. */
    public int rule(int value, int mask, int rank, int act) {
        if (!isKey(value) || !isKey(mask) || !isRank(rank) || !isAct(act)) {
            return BAD;
        }
        return ruleMade(KIND_RULE, value, mask, rank, act);
    }

    /** Promise 4. */
    public int last(int act) {
        if (!isAct(act)) {
            return BAD;
        }
        return ruleMade(KIND_LAST, 0, 0, 0, act);
    }

    /** Promise 5. */
    public int span(int a, int b, int rank, int act) {
        if (!isKey(a) || !isKey(b) || !isRank(rank) || !isAct(act) || a > b) {
            return BAD;
        }
        int rows = rowsOfSpan(a, b);
        if (rows > rules.unused()) {
            return FULL;
        }
        int from = a;
        for (int i = 0; i < rows && from <= b; i++) {
            int keys = keysOfRow(from, b);
            ruleMade(KIND_SPAN, from, ALL_BITS & ~(keys - 1), rank, act);
            from += keys;
        }
        return rows;
    }

    /** Promise 6. */
    public int told(int rule, int what) {
        if (!rules.isInUse(rule)) {
            return BAD_FAR;
        }
        switch (what) {
            case 0: return rules.kindOf(rule);
            case 1: return rules.valueOf(rule);
            case 2: return rules.maskOf(rule);
            case 3: return rules.rankOf(rule);
            case 4: return rules.actOf(rule);
            case 5: return first.placeOf(rule);
            case 6: return second.placeOf(rule);
            default: return BAD_FAR;
        }
    }

    /** Promise 7. */
    public int drop(int rule) {
        if (!rules.isInUse(rule)) {
            return BAD;
        }
        if (first.hasRule(rule) || second.hasRule(rule)) {
            return NOT;
        }
        rules.forget(rule);
        history.forgetAll();
        return 1;
    }

    /** Promise 8. */
    public int act(int rule, int act) {
        if (!rules.isInUse(rule) || !isAct(act)) {
            return BAD;
        }
        if (rules.kindOf(rule) == KIND_LAST) {
            return CAST;
        }
        int before = rules.actOf(rule);
        rules.setAct(rule, act);
        history.forgetAll();
        return before;
    }

    /** Promise 9. */
    public int overlap(int a, int b) {
        if (!rules.isInUse(a) || !rules.isInUse(b)) {
            return BAD;
        }
        return rules.doOverlap(a, b) ? 1 : 0;
    }

    /** Promise 10. */
    public int higher(int a, int b) {
        if (!rules.isInUse(a) || !rules.isInUse(b)) {
            return BAD;
        }
        if (a == b) {
            return 0;
        }
        return rules.isHigher(a, b) ? 1 : 2;
    }

    // ---- 2 tables

    /** Promise 11. */
    public int put(int table, int rule) {
        Table there = tableNumbered(table);
        int refused = refusedPut(there, rule);
        if (there == null || refused != 0) {
            return refused;
        }
        search.find(there, rule, latest);
        remember();
        there.carryOut(latest);
        return latest.length();
    }

    /** Promise 12. */
    public int writes(int table, int rule) {
        Table there = tableNumbered(table);
        int refused = refusedPut(there, rule);
        if (there == null || refused != 0) {
            return refused;
        }
        search.find(there, rule, asked);
        return asked.length();
    }

    /** Promise 13. */
    public int write(int i, int what) {
        // How many there are is asked by the first number alone: the other one is not looked at.
        if (i == -1) {
            return latest.length();
        }
        if (i < 0 || i >= latest.length() || what < 0 || what > 1) {
            return BAD;
        }
        return what == 0 ? latest.ruleOf(i) : latest.placeOf(i);
    }

    /** Promise 14. */
    public int strike(int table, int rule) {
        Table there = tableNumbered(table);
        if (there == null || !rules.isInUse(rule)) {
            return BAD;
        }
        int place = there.placeOf(rule);
        if (place == NOWHERE) {
            return NOT;
        }
        remember();
        there.makeFree(place);
        latest.forgetAll();
        return place;
    }

    /** Promise 15. */
    public int at(int table, int place) {
        Table there = tableNumbered(table);
        if (there == null || place < 0 || place >= there.size()) {
            return BAD;
        }
        int rule = there.ruleAt(place);
        return rule == NO_RULE ? FREE_PLACE : rule;
    }

    /** Promise 16. */
    public int judged(int table, int key) {
        Table there = tableNumbered(table == LIVE_TABLE ? live : table);
        if (there == null || !isKey(key)) {
            return BAD_FAR;
        }
        return there.actFor(key);
    }

    /** Promise 17. */
    public int right(int table) {
        Table there = tableNumbered(table);
        if (there == null) {
            return BAD;
        }
        int right = 0;
        for (int key = 0; key < KEYS; key++) {
            if (there.actFor(key) == there.dueActFor(key)) {
                right++;
            }
        }
        return right;
    }

    /** Promise 18. */
    public int covered(int table, int rule) {
        Table there = tableNumbered(table);
        if (there == null || !rules.isInUse(rule)) {
            return BAD;
        }
        if (!there.hasRule(rule)) {
            return NOT;
        }
        return there.firstKeyShown(rule) == NO_KEY ? 1 : 0;
    }

    /** Promise 19. */
    public int shown(int table, int rule) {
        Table there = tableNumbered(table);
        if (there == null || !rules.isInUse(rule)) {
            return BAD;
        }
        return there.firstKeyShown(rule);
    }

    /** Promise 20. */
    public int spare(int table, int rank) {
        Table there = tableNumbered(table);
        if (there == null || !isRank(rank)) {
            return BAD;
        }
        if (there.isFull()) {
            return FULL;
        }
        // The writes that make room for a rule that overlaps all make room for any other one of
        // that rank too: so the one that looks at no bit takes the greatest number.
        rules.set(THOUGHT, KIND_RULE, 0, 0, rank, 0);
        search.find(there, THOUGHT, asked);
        return asked.length();
    }

    // ---- 3 melting, changing over

    /** Promise 21. */
    public int melt(int table, int a, int b) {
        Table there = tableNumbered(table);
        if (there == null || !isMeltable(a) || !isMeltable(b) || a == b) {
            return BAD;
        }
        int bit = rules.bitApart(a, b);
        if (bit == 0 || !standsOnlyIn(there, a) || !standsOnlyIn(there, b)) {
            return NOT;
        }
        int left = rules.isHigher(a, b) ? a : b;
        int gone = left == a ? b : a;
        if (!meltHolds(there, left, gone, bit)) {
            return NOT;
        }
        history.push(first.packed(), second.packed(), live, left, rules.maskOf(left));
        there.makeFree(there.placeOf(gone));
        rules.setMask(left, rules.maskOf(left) & ~bit);
        latest.forgetAll();
        return left;
    }

    /** Promise 22. */
    public int over() {
        remember();
        live = 1 - live;
        return live;
    }

    /** Promise 23. */
    public int differ() {
        int unlike = 0;
        for (int key = 0; key < KEYS; key++) {
            if (first.actFor(key) != second.actFor(key)) {
                unlike++;
            }
        }
        return unlike;
    }

    /** Promise 24. */
    public int build(int table) {
        Table from = tableNumbered(table);
        Table to = tableNumbered(1 - table);
        if (from == null || to == null) {
            return BAD;
        }
        if (to.standing() > 0) {
            return NOT;
        }
        remember();
        int writes = 0;
        int rule = from.highestBelow(NO_RULE);
        for (int i = 0; i < MOST_PLACES && rule != NO_RULE; i++) {
            search.find(to, rule, asked);
            to.carryOut(asked);
            writes += asked.length();
            rule = from.highestBelow(rule);
        }
        latest.forgetAll();
        return writes;
    }

    /** Promise 25. */
    public int undo() {
        if (history.length() == 0) {
            return NOT;
        }
        first.unpack(history.firstTable());
        second.unpack(history.secondTable());
        live = history.liveTable();
        if (history.meltedRule() != NO_RULE) {
            rules.setMask(history.meltedRule(), history.meltedMask());
        }
        history.pop();
        latest.forgetAll();
        return history.length();
    }

    /** Promise 26. */
    public int count(int what) {
        switch (what) {
            case 0: return RULES - rules.unused();
            case 1: return first.standing();
            case 2: return second.standing();
            case 3: return first.size();
            case 4: return live;
            case 5: return history.length();
            default: return BAD;
        }
    }

    // ---- what the calls share

    private static boolean isKey(int key) {
        return key >= 0 && key < KEYS;
    }

    private static boolean isRank(int rank) {
        return rank >= 0 && rank < RANKS;
    }

    private static boolean isAct(int act) {
        return act >= 0 && act < ACTS;
    }

    /** Null, if there is no such table. */
    private Table tableNumbered(int table) {
        if (table < 0 || table >= TABLES) {
            return null;
        }
        return table == 0 ? first : second;
    }

    private int ruleMade(int kind, int value, int mask, int rank, int act) {
        int rule = rules.leastUnused();
        if (rule == NO_RULE) {
            return FULL;
        }
        rules.set(rule, kind, value, mask, rank, act);
        return rule;
    }

    /** How many keys the longest row has that begins at a key and does not go beyond the end. */
    private static int keysOfRow(int from, int end) {
        int keys = 1;
        for (int bit = 0; bit < BITS; bit++) {
            int twice = keys * 2;
            if ((from & (twice - 1)) != 0 || from + twice - 1 > end) {
                return keys;
            }
            keys = twice;
        }
        return keys;
    }

    private static int rowsOfSpan(int a, int b) {
        int rows = 0;
        int from = a;
        for (int i = 0; i < KEYS && from <= b; i++) {
            from += keysOfRow(from, b);
            rows++;
        }
        return rows;
    }

    /** What put() answers if it refuses, else 0. */
    private int refusedPut(Table there, int rule) {
        if (there == null || !rules.isInUse(rule)) {
            return BAD;
        }
        if (there.hasRule(rule)) {
            return NOT;
        }
        return there.isFull() ? FULL : 0;
    }

    private void remember() {
        history.push(first.packed(), second.packed(), live, NO_RULE, 0);
    }

    private boolean isMeltable(int rule) {
        return rules.isInUse(rule) && rules.kindOf(rule) != KIND_LAST;
    }

    private boolean standsOnlyIn(Table there, int rule) {
        Table other = there == first ? second : first;
        return there.hasRule(rule) && !other.hasRule(rule);
    }

    /** Tries the melting and takes it back: whether all is judged as before and the table is safe. */
    private boolean meltHolds(Table there, int left, int gone, int bit) {
        int place = there.placeOf(gone);
        int mask = rules.maskOf(left);
        there.noteActs(actsBefore);
        there.makeFree(place);
        rules.setMask(left, mask & ~bit);
        boolean holds = there.isSafe() && there.hasActs(actsBefore);
        rules.setMask(left, mask);
        there.lay(gone, place);
        return holds;
    }

    /** The rules by number, and the one that is put in thought alone behind them. */
    private static final class Rules {
        private final int[] kind = new int[RULES + 1];
        private final int[] value = new int[RULES + 1];
        private final int[] mask = new int[RULES + 1];
        private final int[] rank = new int[RULES + 1];
        private final int[] act = new int[RULES + 1];

        Rules() {
            Arrays.fill(kind, UNUSED);
        }

        void forgetAll() {
            Arrays.fill(kind, UNUSED);
        }

        void forget(int rule) {
            if (isNumber(rule)) {
                kind[rule] = UNUSED;
            }
        }

        private boolean isNumber(int rule) {
            return rule >= 0 && rule <= THOUGHT;
        }

        /** Whether the number names a rule of the callers. */
        boolean isInUse(int rule) {
            return rule >= 0 && rule < RULES && kind[rule] != UNUSED;
        }

        int unused() {
            int unused = 0;
            for (int rule = 0; rule < RULES; rule++) {
                if (kind[rule] == UNUSED) {
                    unused++;
                }
            }
            return unused;
        }

        int leastUnused() {
            for (int rule = 0; rule < RULES; rule++) {
                if (kind[rule] == UNUSED) {
                    return rule;
                }
            }
            return NO_RULE;
        }

        void set(int rule, int itsKind, int itsValue, int itsMask, int itsRank, int itsAct) {
            if (isNumber(rule)) {
                kind[rule] = itsKind;
                value[rule] = itsValue;
                mask[rule] = itsMask;
                rank[rule] = itsRank;
                act[rule] = itsAct;
            }
        }

        void setMask(int rule, int itsMask) {
            if (isNumber(rule)) {
                mask[rule] = itsMask;
            }
        }

        void setAct(int rule, int itsAct) {
            if (isNumber(rule)) {
                act[rule] = itsAct;
            }
        }

        int kindOf(int rule) {
            return isNumber(rule) ? kind[rule] : UNUSED;
        }

        /** As far as the mask looks. */
        int valueOf(int rule) {
            return isNumber(rule) ? value[rule] & mask[rule] : 0;
        }

        int maskOf(int rule) {
            return isNumber(rule) ? mask[rule] : 0;
        }

        int rankOf(int rule) {
            return isNumber(rule) ? rank[rule] : 0;
        }

        int actOf(int rule) {
            return isNumber(rule) ? act[rule] : NO_ACT;
        }

        boolean doesFit(int rule, int key) {
            return isNumber(rule) && ((value[rule] ^ key) & mask[rule]) == 0;
        }

        boolean doOverlap(int a, int b) {
            return isNumber(a) && isNumber(b) && ((value[a] ^ value[b]) & mask[a] & mask[b]) == 0;
        }

        boolean isHigher(int a, int b) {
            if (!isNumber(a) || !isNumber(b)) {
                return false;
            }
            return rank[a] > rank[b] || rank[a] == rank[b] && a < b;
        }

        /** The one bit in which two rules of like masks and acts differ; 0, if they are not so. */
        int bitApart(int a, int b) {
            if (maskOf(a) != maskOf(b) || actOf(a) != actOf(b)) {
                return 0;
            }
            int apart = valueOf(a) ^ valueOf(b);
            return Integer.bitCount(apart) == 1 ? apart : 0;
        }
    }

    /** A table: the number of the rule at each place. */
    private static final class Table {
        private final Rules rules;
        private final int[] row = new int[MOST_PLACES];
        private int size = MOST_PLACES;

        Table(Rules rules) {
            this.rules = rules;
            Arrays.fill(row, NO_RULE);
        }

        void empty(int places) {
            Arrays.fill(row, NO_RULE);
            size = places;
        }

        int size() {
            return size;
        }

        private boolean isPlace(int place) {
            return place >= 0 && place < size && place < row.length;
        }

        int ruleAt(int place) {
            return isPlace(place) ? row[place] : NO_RULE;
        }

        int placeOf(int rule) {
            for (int place = 0; place < row.length; place++) {
                if (rule != NO_RULE && row[place] == rule) {
                    return place;
                }
            }
            return NOWHERE;
        }

        boolean hasRule(int rule) {
            return placeOf(rule) != NOWHERE;
        }

        int standing() {
            int standing = 0;
            for (int place = 0; place < row.length; place++) {
                if (row[place] != NO_RULE) {
                    standing++;
                }
            }
            return standing;
        }

        boolean isFull() {
            return standing() >= size;
        }

        void makeFree(int place) {
            if (isPlace(place)) {
                row[place] = NO_RULE;
            }
        }

        /** One write: where the rule stood before is free then. */
        void lay(int rule, int place) {
            if (isPlace(place)) {
                makeFree(placeOf(rule));
                row[place] = rule;
            }
        }

        void carryOut(Plan plan) {
            for (int i = 0; i < MOST_WRITES && i < plan.length(); i++) {
                lay(plan.ruleOf(i), plan.placeOf(i));
            }
        }

        int actFor(int key) {
            for (int place = 0; place < row.length; place++) {
                if (rules.doesFit(row[place], key)) {
                    return rules.actOf(row[place]);
                }
            }
            return NO_ACT;
        }

        /** The act of the highest rule that stands here and fits. */
        int dueActFor(int key) {
            int highest = NO_RULE;
            for (int place = 0; place < row.length; place++) {
                int rule = row[place];
                if (rules.doesFit(rule, key) && (highest == NO_RULE || rules.isHigher(rule, highest))) {
                    highest = rule;
                }
            }
            return rules.actOf(highest);
        }

        void noteActs(int[] acts) {
            for (int key = 0; key < acts.length; key++) {
                acts[key] = actFor(key);
            }
        }

        boolean hasActs(int[] acts) {
            for (int key = 0; key < acts.length; key++) {
                if (acts[key] != actFor(key)) {
                    return false;
                }
            }
            return true;
        }

        boolean isSafe() {
            for (int place = 1; place < row.length; place++) {
                for (int ahead = 0; ahead < place; ahead++) {
                    if (rules.doOverlap(row[ahead], row[place]) && rules.isHigher(row[place], row[ahead])) {
                        return false;
                    }
                }
            }
            return true;
        }

        int firstKeyShown(int rule) {
            for (int key = 0; key < KEYS; key++) {
                if (rules.doesFit(rule, key) && !hasHigherFor(key, rule)) {
                    return key;
                }
            }
            return NO_KEY;
        }

        private boolean hasHigherFor(int key, int rule) {
            for (int place = 0; place < row.length; place++) {
                if (rules.doesFit(row[place], key) && rules.isHigher(row[place], rule)) {
                    return true;
                }
            }
            return false;
        }

        /** The highest of those here that are not as high as a rule (of all, if that is none). */
        int highestBelow(int limit) {
            int highest = NO_RULE;
            for (int place = 0; place < row.length; place++) {
                int rule = row[place];
                boolean below = limit == NO_RULE || rules.isHigher(limit, rule);
                if (rule != NO_RULE && below && (highest == NO_RULE || rules.isHigher(rule, highest))) {
                    highest = rule;
                }
            }
            return highest;
        }

        /** All places in one number: a digit to the base RULES + 1 for each, 0 of a free one. */
        int packed() {
            int code = 0;
            for (int place = row.length - 1; place >= 0; place--) {
                code = code * (RULES + 1) + row[place] + 1;
            }
            return code;
        }

        void unpack(int packed) {
            int code = packed;
            for (int place = 0; place < row.length; place++) {
                row[place] = code % (RULES + 1) - 1;
                code = code / (RULES + 1);
            }
        }
    }

    /** The writes of a put, in order. */
    private static final class Plan {
        private final int[] rule = new int[MOST_WRITES];
        private final int[] place = new int[MOST_WRITES];
        private int length = 0;

        void forgetAll() {
            length = 0;
        }

        void setLength(int writes) {
            length = Math.max(0, Math.min(writes, MOST_WRITES));
        }

        int length() {
            return length;
        }

        void set(int i, int itsRule, int itsPlace) {
            if (i >= 0 && i < length && i < rule.length && i < place.length) {
                rule[i] = itsRule;
                place[i] = itsPlace;
            }
        }

        int ruleOf(int i) {
            return i >= 0 && i < length && i < rule.length ? rule[i] : NO_RULE;
        }

        int placeOf(int i) {
            return i >= 0 && i < length && i < place.length ? place[i] : NOWHERE;
        }
    }

    /**
     * Looks for the fewest writes of a put. Arrangements of the rules that stand are reached in rings,
     * one write farther each; as each ring is gone through in the order of its writes, and the writes
     * from each arrangement by rule and place, the first arrangement that has a place for the new rule
     * is reached by the writes that come first of all that are as few.
     */
    private static final class Search {
        private final Rules rules;
        /** Those that stand in the table, the lesser number first, and behind them the new one. */
        private final int[] member = new int[MOST_PLACES];
        /** Of each member: those it must stand behind, a bit each. */
        private final int[] behindOf = new int[MOST_PLACES];
        /** Of each member: those it must stand ahead of, a bit each. */
        private final int[] aheadOf = new int[MOST_PLACES];
        /** Where each member stands in the arrangement that is looked at. */
        private final int[] where = new int[MOST_PLACES];
        /** Arrangements as numbers: a digit to the base MOST_PLACES for each member. */
        private final int[] reached = new int[ARRANGEMENTS];
        private final int[] cameFrom = new int[ARRANGEMENTS];
        private final int[] seen = new int[SEEN_WORDS];
        private int arrangements = 0;
        private int standing = 0;
        private int size = 0;

        Search(Rules rules) {
            this.rules = rules;
        }

        /** The table must have a free place; without one the plan has no writes. */
        void find(Table table, int rule, Plan plan) {
            plan.forgetAll();
            gather(table, rule);
            Arrays.fill(seen, 0);
            arrangements = 0;
            reach(code(), NOWHERE);
            for (int i = 0; i < ARRANGEMENTS && i < arrangements; i++) {
                arrange(reached[i]);
                int place = leastPlaceFor(standing);
                if (place != NOWHERE) {
                    trace(i, plan);
                    plan.set(plan.length() - 1, rule, place);
                    return;
                }
                widen(i);
            }
        }

        private void gather(Table table, int rule) {
            size = Math.min(table.size(), MOST_PLACES);
            standing = 0;
            for (int number = 0; number < RULES && standing < MOST_PLACES - 1; number++) {
                int place = table.placeOf(number);
                if (place != NOWHERE) {
                    member[standing] = number;
                    where[standing] = place;
                    standing++;
                }
            }
            if (standing >= 0 && standing < member.length) {
                member[standing] = rule;
            }
            for (int m = 0; m <= standing && m < MOST_PLACES; m++) {
                relate(m);
            }
        }

        /** The new rule bounds nobody: it stands nowhere until the last write. */
        private void relate(int m) {
            if (m < 0 || m >= MOST_PLACES) {
                return;
            }
            behindOf[m] = 0;
            aheadOf[m] = 0;
            for (int other = 0; other < standing && other < MOST_PLACES; other++) {
                if (other != m && rules.doOverlap(member[m], member[other])) {
                    if (rules.isHigher(member[other], member[m])) {
                        behindOf[m] |= 1 << other;
                    } else {
                        aheadOf[m] |= 1 << other;
                    }
                }
            }
        }

        private int code() {
            int code = 0;
            for (int m = Math.min(standing, MOST_PLACES) - 1; m >= 0; m--) {
                code = code * MOST_PLACES + where[m];
            }
            return code;
        }

        private void arrange(int code) {
            int digits = code;
            for (int m = 0; m < standing && m < MOST_PLACES; m++) {
                where[m] = digits % MOST_PLACES;
                digits = digits / MOST_PLACES;
            }
        }

        private void reach(int code, int from) {
            int word = code / 32;
            int bit = 1 << code % 32;
            boolean known = word < 0 || word >= SEEN_WORDS || (seen[word] & bit) != 0;
            if (!known && arrangements >= 0 && arrangements < ARRANGEMENTS) {
                seen[word] |= bit;
                reached[arrangements] = code;
                cameFrom[arrangements] = from;
                arrangements++;
            }
        }

        private void widen(int from) {
            int taken = placesTaken();
            for (int m = 0; m < standing && m < MOST_PLACES; m++) {
                int home = where[m];
                int end = endOfRoom(m);
                for (int place = startOfRoom(m); place < end && place < MOST_PLACES; place++) {
                    if ((taken & 1 << place) == 0) {
                        where[m] = place;
                        reach(code(), from);
                    }
                }
                where[m] = home;
            }
        }

        private int placesTaken() {
            int taken = 0;
            for (int m = 0; m < standing && m < MOST_PLACES; m++) {
                taken |= 1 << where[m];
            }
            return taken;
        }

        /** The place next to the last of those that a member must stand behind. */
        private int startOfRoom(int m) {
            int start = 0;
            for (int other = 0; other < standing && other < MOST_PLACES; other++) {
                if (isIn(behindOf, m, other)) {
                    start = Math.max(start, where[other] + 1);
                }
            }
            return start;
        }

        /** The place of the first of those that a member must stand ahead of. */
        private int endOfRoom(int m) {
            int end = size;
            for (int other = 0; other < standing && other < MOST_PLACES; other++) {
                if (isIn(aheadOf, m, other)) {
                    end = Math.min(end, where[other]);
                }
            }
            return end;
        }

        private static boolean isIn(int[] sets, int m, int other) {
            return m >= 0 && m < sets.length && (sets[m] & 1 << other) != 0;
        }

        private int leastPlaceFor(int m) {
            int taken = placesTaken();
            int end = endOfRoom(m);
            for (int place = startOfRoom(m); place < end && place < MOST_PLACES; place++) {
                if ((taken & 1 << place) == 0) {
                    return place;
                }
            }
            return NOWHERE;
        }

        /** Tells the plan the writes that led to an arrangement; room for the last write is left. */
        private void trace(int goal, Plan plan) {
            int moves = 0;
            for (int i = cameFromOf(goal); i != NOWHERE && moves < MOST_WRITES; i = cameFromOf(i)) {
                moves++;
            }
            plan.setLength(moves + 1);
            int i = goal;
            for (int write = moves - 1; write >= 0; write--) {
                int ahead = cameFromOf(i);
                tellMove(codeOf(ahead), codeOf(i), write, plan);
                i = ahead;
            }
        }

        private int cameFromOf(int i) {
            return i >= 0 && i < ARRANGEMENTS ? cameFrom[i] : NOWHERE;
        }

        private int codeOf(int i) {
            return i >= 0 && i < ARRANGEMENTS ? reached[i] : 0;
        }

        private void tellMove(int before, int behind, int write, Plan plan) {
            int old = before;
            int digits = behind;
            for (int m = 0; m < standing && m < MOST_PLACES; m++) {
                if (old % MOST_PLACES != digits % MOST_PLACES) {
                    plan.set(write, member[m], digits % MOST_PLACES);
                }
                old = old / MOST_PLACES;
                digits = digits / MOST_PLACES;
            }
        }
    }

    /** What the acts that can be undone found, the oldest overwritten first. */
    private static final class History {
        private final int[] firstTable = new int[MOST_UNDONE];
        private final int[] secondTable = new int[MOST_UNDONE];
        private final int[] liveTable = new int[MOST_UNDONE];
        private final int[] meltedRule = new int[MOST_UNDONE];
        private final int[] meltedMask = new int[MOST_UNDONE];
        private int next = 0;
        private int length = 0;

        void forgetAll() {
            length = 0;
        }

        int length() {
            return length;
        }

        void push(int firstPacked, int secondPacked, int live, int melted, int mask) {
            if (next < 0 || next >= MOST_UNDONE) {
                return;
            }
            firstTable[next] = firstPacked;
            secondTable[next] = secondPacked;
            liveTable[next] = live;
            meltedRule[next] = melted;
            meltedMask[next] = mask;
            next = (next + 1) % MOST_UNDONE;
            length = Math.min(length + 1, MOST_UNDONE);
        }

        void pop() {
            next = latest();
            length = Math.max(length - 1, 0);
        }

        private int latest() {
            return Math.floorMod(next - 1, MOST_UNDONE);
        }

        private int latestOf(int[] column) {
            int i = latest();
            return i >= 0 && i < column.length ? column[i] : 0;
        }

        int firstTable() {
            return latestOf(firstTable);
        }

        int secondTable() {
            return latestOf(secondTable);
        }

        int liveTable() {
            return latestOf(liveTable);
        }

        int meltedRule() {
            return latestOf(meltedRule);
        }

        int meltedMask() {
            return latestOf(meltedMask);
        }
    }
}
