import java.util.ArrayList;
import java.util.List;

/**
 * "Refusals are answers, of several the first that a call names .. What is refused changes nothing."
 * Each refused call is made on an object of its own; behind it all that can be told is compared with
 * what an object tells on which that call was not made, and once more behind each undo().
 */
public final class RefusalTests extends Due {
    private static final int[] NO_TABLES = {-1, 2, LEAST, MOST};
    private static final int[] NO_RULES = {-1, 16, LEAST, MOST};
    private static final int[] NO_KEYS = {-1, 32, LEAST, MOST};
    private static final int[] NO_RANKS = {-1, 100, LEAST, MOST};
    private static final int[] NO_ACTS = {-1, 16, LEAST, MOST};

    private RefusalTests() {
    }

    public static void main(String[] args) {
        runAll(RefusalTests.class);
    }

    private interface Scene {
        MatchRows make();
    }

    private interface Call {
        int on(MatchRows x);
    }

    private static final class Refused {
        final String name;
        final int due;
        final Call call;

        Refused(String name, int due, Call call) {
            this.name = name;
            this.due = due;
            this.call = call;
        }
    }

    // ---- what is told of an object

    /** All but the judging, which follows of the rows and the rules; some 480 calls. */
    private static String allTold(MatchRows x) {
        StringBuilder all = new StringBuilder();
        for (int r = 0; r < 16; r++) {
            for (int what = 0; what < 7; what++) {
                all.append(x.told(r, what)).append(' ');
            }
        }
        for (int i = -1; i < 13; i++) {
            all.append(x.write(i, 0)).append(' ').append(x.write(i, 1)).append(' ');
        }
        for (int what = 0; what < 6; what++) {
            all.append(x.count(what)).append(' ');
        }
        addRows(x, all);
        for (int i = 0; i < 21; i++) {
            all.append("undo ").append(x.undo()).append(' ');
            addRows(x, all);
        }
        return all.append("new ").append(x.rule(0, 0, 0, 0)).toString();
    }

    private static void addRows(MatchRows x, StringBuilder all) {
        for (int p = 0; p < 6; p++) {
            all.append(x.at(0, p)).append(' ').append(x.at(1, p)).append(' ');
        }
    }

    private static void changesNothing(Scene scene, List<Refused> calls) {
        String before = allTold(scene.make());
        for (Refused refused : calls) {
            MatchRows x = scene.make();
            due(refused.name, refused.call.on(x), refused.due);
            holds(refused.name + " changes nothing", before.equals(allTold(x)));
        }
    }

    // ---- scenes

    /** All rules in use, both tables full, a rule at 0 in both; table 1 live, 20 acts to undo. */
    private static MatchRows full() {
        MatchRows x = new MatchRows();
        addKeys(x, 13, 5, 1);
        x.last(2);
        x.span(14, 14, 5, 1);
        x.rule(15, 31, 9, 3);
        for (int i = 0; i < 13; i++) {
            x.over();
        }
        putAll(x, 0, 0, 1, 2, 3, 13, 14);
        putAll(x, 1, 0, 8, 9, 10, 11, 13);
        return x;
    }

    /** Holes in both tables, numbers 14 and 15 free; one pair was melted. */
    private static MatchRows halfway() {
        MatchRows x = new MatchRows();
        x.rule(5, 31, 5, 1);
        x.rule(4, 31, 9, 1);
        x.rule(5, 31, 1, 1);
        x.rule(8, 31, 9, 2);
        x.rule(9, 31, 1, 2);
        x.rule(9, 31, 5, 3);
        x.last(4);
        x.rule(16, 31, 5, 5);
        x.rule(17, 31, 5, 5);
        x.rule(18, 31, 5, 5);
        x.span(20, 23, 5, 5);
        x.rule(24, 31, 5, 6);
        x.rule(25, 31, 5, 6);
        x.rule(0, 31, 5, 6);
        putAll(x, 0, 7, 8, 9);
        x.melt(0, 7, 8);
        strikeAll(x, 0, 7, 9);
        putAll(x, 0, 0, 1, 2, 3, 5, 4);
        putAll(x, 1, 11, 12, 2, 6);
        x.strike(1, 11);
        x.over();
        return x;
    }

    private static void theScenesAreAsTheyAreCalled() {
        dueCounts("full", full(), 16, 6, 6, 6, 1, 20);
        MatchRows x = halfway();
        dueCounts("halfway", x, 14, 6, 3, 6, 1, 18);
        dueRow("halfway", x, 0, 0, 1, 2, 3, 5, 4);
        dueRow("halfway", x, 1, -2, 12, 2, 6, -2, -2);
        due("halfway: one pair was melted", x.told(7, 2), 30);
    }

    // ---- what is refused, however the object stands

    private static void wrongNumbersChangeNothing() {
        List<Refused> calls = new ArrayList<>();
        addWrongOfRules(calls);
        addWrongOfTables(calls);
        addWrongOfMelting(calls);
        changesNothing(MatchRows::new, calls);
        changesNothing(RefusalTests::full, calls);
        changesNothing(RefusalTests::halfway, calls);
    }

    private static void addWrongOfRules(List<Refused> calls) {
        for (int n : new int[] {1, 7, 0, -1, LEAST, MOST}) {
            calls.add(new Refused("places(" + n + ")", -1, x -> x.places(n)));
        }
        for (int n : NO_KEYS) {
            calls.add(new Refused("rule of value " + n, -1, x -> x.rule(n, 0, 0, 0)));
            calls.add(new Refused("rule of mask " + n, -1, x -> x.rule(0, n, 0, 0)));
            calls.add(new Refused("span from " + n, -1, x -> x.span(n, 31, 0, 0)));
            calls.add(new Refused("span to " + n, -1, x -> x.span(0, n, 0, 0)));
        }
        for (int n : NO_RANKS) {
            calls.add(new Refused("rule of rank " + n, -1, x -> x.rule(0, 0, n, 0)));
            calls.add(new Refused("span of rank " + n, -1, x -> x.span(0, 0, n, 0)));
        }
        for (int n : NO_ACTS) {
            calls.add(new Refused("rule of act " + n, -1, x -> x.rule(0, 0, 0, n)));
            calls.add(new Refused("last of act " + n, -1, x -> x.last(n)));
            calls.add(new Refused("span of act " + n, -1, x -> x.span(0, 0, 0, n)));
            calls.add(new Refused("act " + n, -1, x -> x.act(0, n)));
        }
        for (int n : NO_RULES) {
            calls.add(new Refused("told of " + n, -101, x -> x.told(n, 0)));
            calls.add(new Refused("drop of " + n, -1, x -> x.drop(n)));
            calls.add(new Refused("act of " + n, -1, x -> x.act(n, 0)));
            calls.add(new Refused("overlap of " + n, -1, x -> x.overlap(n, 0)));
            calls.add(new Refused("overlap with " + n, -1, x -> x.overlap(0, n)));
            calls.add(new Refused("higher of " + n, -1, x -> x.higher(n, 0)));
            calls.add(new Refused("higher with " + n, -1, x -> x.higher(0, n)));
        }
        for (int n : new int[] {-1, 7, LEAST, MOST}) {
            calls.add(new Refused("told " + n, -101, x -> x.told(0, n)));
        }
        calls.add(new Refused("span(1, 0)", -1, x -> x.span(1, 0, 0, 0)));
        calls.add(new Refused("span(31, 0)", -1, x -> x.span(31, 0, 0, 0)));
    }

    private static void addWrongOfTables(List<Refused> calls) {
        for (int n : NO_TABLES) {
            calls.add(new Refused("put in " + n, -1, x -> x.put(n, 0)));
            calls.add(new Refused("writes in " + n, -1, x -> x.writes(n, 0)));
            calls.add(new Refused("strike in " + n, -1, x -> x.strike(n, 0)));
            calls.add(new Refused("at of " + n, -1, x -> x.at(n, 0)));
            calls.add(new Refused("right of " + n, -1, x -> x.right(n)));
            calls.add(new Refused("covered in " + n, -1, x -> x.covered(n, 0)));
            calls.add(new Refused("shown in " + n, -1, x -> x.shown(n, 0)));
            calls.add(new Refused("spare of " + n, -1, x -> x.spare(n, 0)));
        }
        for (int n : NO_RULES) {
            calls.add(new Refused("put of " + n, -1, x -> x.put(0, n)));
            calls.add(new Refused("writes of " + n, -1, x -> x.writes(0, n)));
            calls.add(new Refused("strike of " + n, -1, x -> x.strike(0, n)));
            calls.add(new Refused("covered of " + n, -1, x -> x.covered(0, n)));
            calls.add(new Refused("shown of " + n, -1, x -> x.shown(0, n)));
        }
        for (int n : new int[] {-2, 13, LEAST, MOST}) {
            calls.add(new Refused("write " + n, -1, x -> x.write(n, 0)));
        }
        for (int n : new int[] {-1, 2, LEAST, MOST}) {
            calls.add(new Refused("write's number " + n, -1, x -> x.write(0, n)));
        }
        for (int n : new int[] {-1, 6, LEAST, MOST}) {
            calls.add(new Refused("place " + n, -1, x -> x.at(0, n)));
        }
        for (int n : new int[] {-1, 3, LEAST, MOST}) {
            calls.add(new Refused("judged by " + n, -101, x -> x.judged(n, 0)));
        }
        for (int n : NO_KEYS) {
            calls.add(new Refused("judged key " + n, -101, x -> x.judged(2, n)));
        }
        for (int n : NO_RANKS) {
            calls.add(new Refused("spare of rank " + n, -1, x -> x.spare(0, n)));
        }
    }

    private static void addWrongOfMelting(List<Refused> calls) {
        for (int n : NO_TABLES) {
            calls.add(new Refused("melt in " + n, -1, x -> x.melt(n, 0, 1)));
            calls.add(new Refused("build of " + n, -1, x -> x.build(n)));
        }
        for (int n : NO_RULES) {
            calls.add(new Refused("melt of " + n, -1, x -> x.melt(0, n, 0)));
            calls.add(new Refused("melt with " + n, -1, x -> x.melt(0, 0, n)));
            calls.add(new Refused("melt of both " + n, -1, x -> x.melt(0, n, n)));
        }
        for (int n : new int[] {-1, 6, LEAST, MOST}) {
            calls.add(new Refused("count " + n, -1, x -> x.count(n)));
        }
        calls.add(new Refused("melt of one", -1, x -> x.melt(0, 0, 0)));
    }

    // ---- what is refused as the object stands

    private static void refusedByANewObject() {
        List<Refused> calls = new ArrayList<>();
        calls.add(new Refused("undo()", -2, x -> x.undo()));
        calls.add(new Refused("told(0, 5)", -101, x -> x.told(0, 5)));
        calls.add(new Refused("drop(0)", -1, x -> x.drop(0)));
        calls.add(new Refused("act(0, 0)", -1, x -> x.act(0, 0)));
        calls.add(new Refused("overlap(0, 0)", -1, x -> x.overlap(0, 0)));
        calls.add(new Refused("higher(0, 0)", -1, x -> x.higher(0, 0)));
        calls.add(new Refused("put(0, 0)", -1, x -> x.put(0, 0)));
        calls.add(new Refused("writes(0, 0)", -1, x -> x.writes(0, 0)));
        calls.add(new Refused("write(0, 0)", -1, x -> x.write(0, 0)));
        calls.add(new Refused("strike(0, 0)", -1, x -> x.strike(0, 0)));
        calls.add(new Refused("covered(0, 0)", -1, x -> x.covered(0, 0)));
        calls.add(new Refused("shown(0, 0)", -1, x -> x.shown(0, 0)));
        calls.add(new Refused("melt(0, 0, 1)", -1, x -> x.melt(0, 0, 1)));
        changesNothing(MatchRows::new, calls);
    }

    private static void refusedByAFullObject() {
        List<Refused> calls = new ArrayList<>();
        calls.add(new Refused("a 17th rule", -3, x -> x.rule(0, 0, 0, 0)));
        calls.add(new Refused("a 17th rule, a last", -3, x -> x.last(0)));
        calls.add(new Refused("a span of one row", -3, x -> x.span(0, 31, 0, 0)));
        calls.add(new Refused("a span of eight rows", -3, x -> x.span(1, 30, 0, 0)));
        calls.add(new Refused("drop: in both tables", -2, x -> x.drop(0)));
        calls.add(new Refused("drop: in table 0", -2, x -> x.drop(14)));
        calls.add(new Refused("drop: in table 1", -2, x -> x.drop(11)));
        calls.add(new Refused("act of a last", -13, x -> x.act(13, 0)));
        for (int t = 0; t < 2; t++) {
            int table = t;
            calls.add(new Refused("put: it stands there", -2, x -> x.put(table, 0)));
            calls.add(new Refused("put: no place", -3, x -> x.put(table, 15)));
            calls.add(new Refused("writes: it stands there", -2, x -> x.writes(table, 13)));
            calls.add(new Refused("writes: no place", -3, x -> x.writes(table, 15)));
            calls.add(new Refused("strike: it stands nowhere", -2, x -> x.strike(table, 15)));
            calls.add(new Refused("covered: it stands nowhere", -2, x -> x.covered(table, 15)));
            calls.add(new Refused("spare", -3, x -> x.spare(table, 0)));
            calls.add(new Refused("build", -2, x -> x.build(table)));
            calls.add(new Refused("melt: kind 2", -1, x -> x.melt(table, 0, 13)));
            calls.add(new Refused("melt: kind 2", -1, x -> x.melt(table, 13, 0)));
            calls.add(new Refused("melt: it stands nowhere", -2, x -> x.melt(table, 0, 15)));
        }
        calls.add(new Refused("strike: in the other table", -2, x -> x.strike(1, 14)));
        calls.add(new Refused("covered: in the other table", -2, x -> x.covered(0, 11)));
        calls.add(new Refused("melt: the higher one in both", -2, x -> x.melt(0, 0, 1)));
        calls.add(new Refused("melt: the higher one in both", -2, x -> x.melt(1, 0, 8)));
        calls.add(new Refused("melt: unlike in two bits", -2, x -> x.melt(0, 1, 2)));
        calls.add(new Refused("write behind the last", -1, x -> x.write(1, 0)));
        changesNothing(RefusalTests::full, calls);
    }

    private static void refusedHalfway() {
        List<Refused> calls = new ArrayList<>();
        calls.add(new Refused("a span of three rows, two numbers", -3, x -> x.span(1, 6, 0, 0)));
        calls.add(new Refused("a span of eight rows, two numbers", -3, x -> x.span(1, 30, 0, 0)));
        calls.add(new Refused("a rule that is not", -1, x -> x.drop(14)));
        calls.add(new Refused("a rule that is not", -1, x -> x.act(15, 0)));
        calls.add(new Refused("a rule that is not", -1, x -> x.put(1, 14)));
        calls.add(new Refused("a rule that is not", -1, x -> x.strike(1, 15)));
        calls.add(new Refused("a rule that is not", -101, x -> x.told(14, 5)));
        calls.add(new Refused("a rule that is not", -1, x -> x.shown(0, 14)));
        calls.add(new Refused("a rule that is not", -1, x -> x.melt(0, 14, 15)));
        calls.add(new Refused("act of a last", -13, x -> x.act(6, 4)));
        calls.add(new Refused("melt: not safe", -2, x -> x.melt(0, 1, 2)));
        calls.add(new Refused("melt: key 9 judged otherwise", -2, x -> x.melt(0, 3, 4)));
        calls.add(new Refused("melt: key 9 judged otherwise", -2, x -> x.melt(0, 4, 3)));
        calls.add(new Refused("melt: unlike acts", -2, x -> x.melt(0, 3, 5)));
        calls.add(new Refused("melt: one is struck", -2, x -> x.melt(1, 11, 12)));
        calls.add(new Refused("melt: none stands there", -2, x -> x.melt(0, 11, 12)));
        calls.add(new Refused("put: no place", -3, x -> x.put(0, 6)));
        calls.add(new Refused("put: it stands there", -2, x -> x.put(1, 12)));
        calls.add(new Refused("spare: no place", -3, x -> x.spare(0, 50)));
        calls.add(new Refused("build: not empty", -2, x -> x.build(0)));
        calls.add(new Refused("build: not empty", -2, x -> x.build(1)));
        changesNothing(RefusalTests::halfway, calls);
    }

    // ---- "of several the first that a call names"

    /** rule(), last(), span(): "BAD; FULL". */
    private static void badAheadOfFullOfRules() {
        MatchRows x = keys(16, 1, 1);
        due("full", x.rule(0, 0, 0, 0), -3);
        due("a wrong value", x.rule(32, 0, 0, 0), -1);
        due("a wrong mask", x.rule(0, 32, 0, 0), -1);
        due("a wrong rank", x.rule(0, 0, 100, 0), -1);
        due("a wrong act", x.rule(0, 0, 0, 16), -1);
        due("full", x.last(0), -3);
        due("a wrong act", x.last(16), -1);
        due("full", x.span(1, 30, 0, 0), -3);
        due("a wrong end", x.span(1, 32, 0, 0), -1);
        due("a wrong begin", x.span(-1, 30, 0, 0), -1);
        due("a wrong rank", x.span(1, 30, 100, 0), -1);
        due("a wrong act", x.span(1, 30, 0, 16), -1);
        due("a above b", x.span(30, 1, 0, 0), -1);
    }

    /** act(): "BAD; CAST". */
    private static void badAheadOfCast() {
        MatchRows x = new MatchRows();
        x.last(1);
        due("a last", x.act(0, 15), -13);
        due("a wrong act", x.act(0, 16), -1);
        due("a wrong act", x.act(0, -1), -1);
    }

    /** put(), writes(): "BAD; NOT: it stands there; FULL". */
    private static void badAheadOfNotAheadOfFull() {
        MatchRows x = new MatchRows();
        x.places(2);
        addKeys(x, 3, 1, 1);
        putAll(x, 0, 0, 1);
        due("full", x.put(0, 2), -3);
        due("it stands there, and full", x.put(0, 0), -2);
        due("no rule, and full", x.put(0, 3), -1);
        due("no table, and it stands in one", x.put(2, 0), -1);
        due("full", x.writes(0, 2), -3);
        due("it stands there, and full", x.writes(0, 1), -2);
        due("no rule, and full", x.writes(0, -1), -1);
        due("no table, and it stands in one", x.writes(-1, 1), -1);
    }

    /** strike(), covered(): "BAD; NOT: it does not stand there". */
    private static void badAheadOfNot() {
        MatchRows x = keys(2, 1, 1);
        x.put(0, 0);
        due("it does not stand there", x.strike(0, 1), -2);
        due("no table: it does not stand there either", x.strike(2, 1), -1);
        due("no rule: it does not stand there either", x.strike(0, 2), -1);
        due("it does not stand there", x.covered(0, 1), -2);
        due("no table: it does not stand there either", x.covered(-1, 1), -1);
        due("no rule: it does not stand there either", x.covered(0, 2), -1);
    }

    /** spare(): "BAD; FULL". */
    private static void badAheadOfFullOfPlaces() {
        MatchRows x = new MatchRows();
        x.places(2);
        addKeys(x, 2, 1, 1);
        putAll(x, 1, 0, 1);
        due("full", x.spare(1, 99), -3);
        due("a wrong rank", x.spare(1, 100), -1);
        due("a wrong rank", x.spare(1, -1), -1);
        due("no table", x.spare(2, 99), -1);
    }

    /** melt(): "BAD: also they are one, KIND 2; NOT". */
    private static void badAheadOfNotOfMelting() {
        MatchRows x = keys(2, 1, 1);
        x.last(1);
        x.last(2);
        due("none stands there", x.melt(0, 0, 1), -2);
        due("they are one that does not stand there", x.melt(0, 1, 1), -1);
        due("a last that does not stand there", x.melt(0, 0, 2), -1);
        due("a last that does not stand there", x.melt(0, 2, 0), -1);
        due("a last and itself", x.melt(0, 2, 2), -1);
        due("two lasts of unlike acts", x.melt(0, 2, 3), -1);
        due("no rule, with one that does not stand there", x.melt(0, 0, 4), -1);
        due("no rule, with one that does not stand there", x.melt(0, 4, 0), -1);
        due("no table", x.melt(2, 0, 1), -1);
        putAll(x, 0, 0, 1, 2);
        putAll(x, 1, 0, 1, 2);
        due("both stand in both tables", x.melt(0, 0, 1), -2);
        due("a last that stands in both tables", x.melt(0, 0, 2), -1);
        due("one that stands in both tables", x.melt(1, 1, 1), -1);
    }

    /** build(): "BAD; NOT: it is not empty". */
    private static void badAheadOfNotOfBuilding() {
        MatchRows x = keys(2, 1, 1);
        x.put(0, 0);
        x.put(1, 1);
        due("not empty", x.build(0), -2);
        due("not empty", x.build(1), -2);
        due("no table", x.build(2), -1);
        due("no table", x.build(-1), -1);
    }
}
