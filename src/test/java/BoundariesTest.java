import java.util.ArrayList;
import java.util.List;
import java.util.function.Predicate;

/** A test for each sentence of the document that names a boundary case; the test bears the sentence's words. */
public final class BoundariesTest {
    private static final int NONE = -1;
    private static final int MOST_CALLS = 512;
    /** 9 arrows, all loose; nodes 0 and 4 alone are not joined. */
    private static final String NINE = "01 02 03 12 13 14 23 24 34";
    /** The same arrows the other way. */
    private static final String NINE_FALLING = "10 20 30 21 31 41 32 42 43";
    private static String sentence = "";
    private static int sentences = 0;
    private static int wrong = 0;

    private static void due(String what, int got, int want) {
        if (got != want) {
            wrong++;
            System.out.println(sentence + " -- " + what + " answered " + got + ", due is " + want);
        }
    }

    private static void due(String what, boolean got, boolean want) {
        due(what, got ? 1 : 0, want ? 1 : 0);
    }

    private static void test(String words, Runnable body) {
        sentence = words;
        sentences++;
        body.run();
    }

    /** A graph from "01 12 32": each word an arrow from its first node to its second. */
    private static ArrowClasses graph(int n, String arrows) {
        return graph(n, arrows, "");
    }

    private static ArrowClasses graph(int n, String arrows, String known) {
        ArrowClasses x = new ArrowClasses(n);
        for (String word : words(arrows)) {
            due("arrow " + word + " of " + arrows, x.arrow(word.charAt(0) - '0', word.charAt(1) - '0'), true);
        }
        for (String word : words(known)) {
            due("know " + word + " of " + arrows, x.know(word.charAt(0) - '0', word.charAt(1) - '0'), true);
        }
        return x;
    }

    private static String[] words(String text) {
        return text.isEmpty() ? new String[0] : text.split(" ");
    }

    private static int set(int... nodes) {
        int sum = 0;
        for (int v : nodes) {
            sum += 1 << v;
        }
        return sum;
    }

    /** Numbers that are no nodes, those among them that a shift would take for a node. */
    private static int[] noNodes(int n) {
        return new int[] {
            -1, -2, n, n + 1, 7, 31, 32, 33, 32 + n - 1, 64, -31, -32, -64,
            Integer.MAX_VALUE, Integer.MIN_VALUE, Integer.MIN_VALUE + 1,
        };
    }

    private interface PairCall {
        int of(ArrowClasses x, int u, int v);
    }

    private static int number(boolean answer) {
        return answer ? 1 : 0;
    }

    /** The call with one or two numbers that are no nodes, beside every node, for every n. */
    private static void noNode(PairCall call, int want) {
        for (int n = 2; n <= 6; n++) {
            ArrowClasses x = graph(n, "01");
            for (int w : noNodes(n)) {
                for (int v = 0; v < n; v++) {
                    due(n + " nodes: (" + v + ", " + w + ")", call.of(x, v, w), want);
                    due(n + " nodes: (" + w + ", " + v + ")", call.of(x, w, v), want);
                }
                due(n + " nodes: (" + w + ", " + w + ")", call.of(x, w, w), want);
                x = graph(n, "01");
            }
        }
    }

    private static void sameNode(PairCall call, int want) {
        for (int n = 2; n <= 6; n++) {
            ArrowClasses x = graph(n, "01");
            for (int v = 0; v < n; v++) {
                due(n + " nodes: (" + v + ", " + v + ")", call.of(x, v, v), want);
            }
        }
    }

    // The document's head and its terms

    private static void lastCall() {
        ArrowClasses x = new ArrowClasses(5);
        for (int call = 2; call <= MOST_CALLS; call += 2) {
            due("call " + (call - 1), x.arrow(0, 1), true);
            due("call " + call, call == MOST_CALLS ? x.members() : number(x.erase(0, 1)), call == MOST_CALLS ? 2 : 1);
        }
        // What they answer is free, but they end without a throw.
        for (int call = 0; call < 2 * MOST_CALLS; call++) {
            x.arrow(call % 7 - 1, call % 5);
            x.know(call % 5, call % 7 - 1);
            x.members();
            x.separations();
        }
    }

    private static void nodesOfEachN() {
        for (int n = 2; n <= 6; n++) {
            ArrowClasses x = new ArrowClasses(n);
            due(n + " nodes: parents(-1)", x.parents(-1), NONE);
            due(n + " nodes: parents(0)", x.parents(0), 0);
            due(n + " nodes: parents(n - 1)", x.parents(n - 1), 0);
            due(n + " nodes: parents(n)", x.parents(n), NONE);
            due(n + " nodes: from the last to the first", x.arrow(n - 1, 0), true);
            due(n + " nodes: from the first to the one after the last", x.arrow(0, n), false);
        }
    }

    private static void setsAsNumbers() {
        ArrowClasses x = graph(6, "51 01 13");
        due("the lowest and the highest node", x.parents(1), 33);
        due("no node", x.parents(0), 0);
        ArrowClasses all = graph(6, "54 43 32 21 10");
        due("every node", all.reached(5), 63);
    }

    private static void oneArrowBetweenTwo() {
        for (int n = 2; n <= 6; n++) {
            ArrowClasses x = graph(n, "10");
            due(n + " nodes: the same once more", x.arrow(1, 0), false);
            due(n + " nodes: the other way", x.arrow(0, 1), false);
            due(n + " nodes: there is the one", x.drawn(1, 0) && !x.drawn(0, 1), true);
        }
    }

    /** Rings of one node to six, closed at each of their arrows, upward and downward. */
    private static void ringsOfAllLengths() {
        for (int length = 1; length <= 6; length++) {
            for (int missing = 0; missing < length; missing++) {
                for (int step : new int[] {1, -1}) {
                    ArrowClasses x = new ArrowClasses(6);
                    for (int i = 0; i < length; i++) {
                        int from = step == 1 ? i : length - 1 - i;
                        if (i != missing) {
                            due("arrow from " + from, x.arrow(from, Math.floorMod(from + step, length)), true);
                        }
                    }
                    int from = step == 1 ? missing : length - 1 - missing;
                    int to = Math.floorMod(from + step, length);
                    due("ring of " + length + " at " + from + ", " + to, x.arrow(from, to), false);
                    due("not drawn", x.drawn(from, to), false);
                }
            }
        }
    }

    private static void reachesItself() {
        for (int n = 2; n <= 6; n++) {
            ArrowClasses x = new ArrowClasses(n);
            for (int v = 0; v < n; v++) {
                due(n + " nodes without arrows: reached(" + v + ")", x.reached(v), 1 << v);
            }
        }
        ArrowClasses up = graph(6, "01 12 23 34 45");
        ArrowClasses down = graph(6, "10 21 32 43 54");
        due("the longest row, upward", up.reached(0), 63);
        due("its end, upward", up.reached(5), 32);
        due("the longest row, downward", down.reached(5), 63);
        due("its end, downward", down.reached(0), 1);
        ArrowClasses across = graph(6, "30 05 51 14 42");
        due("the longest row, up and down", across.reached(3), 63);
        due("its end, up and down", across.reached(2), 4);
    }

    private static void atMostNineArrows() {
        for (int n = 5; n <= 6; n++) {
            ArrowClasses x = new ArrowClasses(n);
            int drawn = 0;
            for (int u = 0; u < n; u++) {
                for (int v = u + 1; v < n; v++) {
                    due(n + " nodes: arrow after " + drawn, x.arrow(u, v), drawn < 9);
                    drawn += number(x.drawn(u, v));
                }
            }
            due(n + " nodes: arrows", drawn, 9);
        }
        ArrowClasses four = graph(4, "01 02 03 12 13 23");
        due("4 nodes: all six", four.reached(0), 15);
    }

    private static void pathsShortAndLong() {
        ArrowClasses two = graph(6, "01");
        for (int set = 0; set < 64; set += 4) {
            due("a path without a middle, by " + set, two.separated(0, 1, set) || two.separated(1, 0, set), false);
        }
        for (int middle = 1; middle < 5; middle++) {
            ArrowClasses six = graph(6, "01 12 23 34 45");
            due("the longest path, open", six.separated(0, 5, 0), false);
            due("the longest path, blocked at " + middle, six.separated(0, 5, 1 << middle), true);
        }
    }

    private static void endsDoNotMeet() {
        // Two arrows go to 2, but it is the path's end.
        ArrowClasses x = graph(4, "01 12 32");
        due("to the end", x.separated(0, 2, 0), false);
        due("from the end", x.separated(2, 0, 0), false);
        due("in the middle", x.separated(0, 3, 0), true);
        ArrowClasses half = graph(3, "01 12");
        due("one arrow to it, one from it", half.separated(0, 2, 0), false);
        ArrowClasses fork = graph(3, "10 12");
        due("both arrows from it", fork.separated(0, 2, 0), false);
    }

    private static void blockedPaths() {
        ArrowClasses x = graph(6, "02 12 23 34 45");
        due("meets, and the set is empty", x.separated(0, 1, 0), true);
        due("meets, and is in the set", x.separated(0, 1, set(2)), false);
        due("meets, and reaches one of the set by one arrow", x.separated(0, 1, set(3)), false);
        due("meets, and reaches one of the set by three", x.separated(0, 1, set(5)), false);
        due("does not meet, and is in the set", x.separated(0, 4, set(3)), true);
        due("does not meet, and reaches one of the set", x.separated(0, 4, set(5)), false);
        ArrowClasses above = graph(6, "02 12 32 43");
        due("meets, and one of the set reaches it", above.separated(0, 1, set(3, 4)), true);
        ArrowClasses two = graph(5, "01 21 23 43");
        due("two meet, one is in the set", two.separated(0, 4, set(1)) && two.separated(0, 4, set(3)), true);
        due("two meet, both are in the set", two.separated(0, 4, set(1, 3)), false);
        due("two meet, and the one between is in the set", two.separated(0, 4, set(1, 2, 3)), true);
        ArrowClasses ways = graph(4, "01 12 03 32");
        due("one of two paths blocked", ways.separated(0, 2, set(1)) || ways.separated(0, 2, set(3)), false);
        due("both paths blocked", ways.separated(0, 2, set(1, 3)), true);
    }

    private static void noPath() {
        for (int n = 2; n <= 6; n++) {
            ArrowClasses x = new ArrowClasses(n);
            for (int y = 1; y < n; y++) {
                due(n + " nodes without arrows, 0 and " + y, x.separated(0, y, 0) && x.separated(y, 0, 0), true);
            }
        }
        ArrowClasses parts = graph(6, "01 12 34 45");
        due("two parts", parts.separated(0, 5, 0) && parts.separated(2, 3, set(1, 4)), true);
    }

    private static void sameCollisions() {
        due("at two nodes", graph(4, "02 12 03 13").collisions(), 2);
        due("one node, two pairs", graph(4, "03 13 23 02").collisions(), 2);
        due("parents joined upward", graph(3, "02 12 01").collisions(), 0);
        due("parents joined downward", graph(3, "02 12 10").collisions(), 0);
        due("one parent", graph(3, "02").collisions(), 0);
        due("the lowest node", graph(3, "10 20").collisions(), 1);
        due("the highest node", graph(6, "05 45").collisions(), 1);
        // Of the four graphs with one collision two have it at node 2, so those are no members.
        due("as many collisions, but others", graph(4, "01 21 23").members(), 2);
    }

    private static void drawnIsMember() {
        for (String arrows : new String[] {"", "10", "10 21 32", "01 21", NINE, NINE_FALLING}) {
            ArrowClasses x = graph(6, arrows, arrows);
            due("all of " + arrows + " known: members", x.members(), 1);
            due("all of " + arrows + " known: turned", x.turned(), 0);
            due("all of " + arrows + " known: forget", x.forget(), words(arrows).length);
        }
        ArrowClasses x = graph(2, "01", "10");
        due("the drawn graph has not what is known: members", x.members(), 1);
        due("the drawn graph has not what is known: turned", x.turned(), 1);
    }

    private static void nothingKnownAtFirst() {
        for (int n = 0; n <= 7; n++) {
            due("a new object with " + n, new ArrowClasses(n).forget(), 0);
        }
        due("drawn, but not known", graph(6, NINE).forget(), 0);
    }

    private static void knownAfter(String what, ArrowClasses x, boolean changed, ArrowClasses fresh) {
        due(what, changed, true);
        due(what + ": members", x.members(), fresh.members());
        due(what + ": loose", x.loose(), fresh.loose());
        due(what + ": turned", x.turned(), fresh.turned());
        due(what + ": forget", x.forget(), 0);
    }

    private static void nothingKnownAfterChange() {
        String chain = "01 12 23";
        String known = "21 32";
        ArrowClasses x = graph(6, chain, known);
        due("before a change", x.members(), 1);
        due("before a change: turned", x.turned(), 3);
        knownAfter("arrow", x, x.arrow(4, 5), graph(6, "01 12 23 45"));
        x = graph(6, chain, known);
        knownAfter("arrow to a joined node", x, x.arrow(0, 3), graph(6, "01 12 23 03"));
        x = graph(6, chain, known);
        knownAfter("erase of one not known", x, x.erase(0, 1), graph(6, "12 23"));
        x = graph(6, chain, known);
        knownAfter("erase of one known the other way", x, x.erase(1, 2), graph(6, "01 23"));
        x = graph(6, chain, "01");
        knownAfter("erase of the known one", x, x.erase(0, 1), graph(6, "12 23"));
        x = graph(6, chain, known);
        knownAfter("turn inside the class", x, x.turn(0, 1), graph(6, "10 12 23"));
        x = graph(6, chain, known);
        knownAfter("turn out of the class", x, x.turn(2, 3), graph(6, "01 12 32"));
        x = graph(6, chain, known);
        knownAfter("turn and turn back", x, x.turn(0, 1) && x.turn(1, 0), graph(6, chain));
        x = graph(6, chain, known);
        knownAfter("erased and drawn again", x, x.erase(1, 2) && x.arrow(1, 2), graph(6, chain));
        x = graph(6, chain, known);
        x.erase(0, 1);
        due("known after a change", x.know(3, 2), true);
        due("known after a change: members", x.members(), 1);
        due("known after a change: forget", x.forget(), 1);
    }

    private static void firstOfSeveral() {
        // No member has both 0 to 4 and 1 to 2.
        ArrowClasses x = graph(5, "12 24 40");
        due("0, 4 is before 1, 2", x.first(0, 4) && x.first(4, 2) && x.first(2, 1), true);
        // No member has both 0 to 5 and 1 to 2, nor 0 to 5 and 1 to 4.
        ArrowClasses y = graph(6, "05 51 12 14");
        due("0, 5 is before 1, 2 and 1, 4", y.first(0, 5) && y.first(5, 1) && y.first(1, 2) && y.first(1, 4), true);
        due("the only one", graph(3, "21 01").first(2, 1), true);
    }

    // A call that is refused changes nothing

    /** What every call answers that changes nothing, and then what was known. */
    private static List<String> answers(ArrowClasses x, int n) {
        List<String> found = new ArrayList<>();
        found.add("collisions() " + x.collisions());
        found.add("separations() " + x.separations());
        addClass(found, x, n);
        for (int u = 0; u < n; u++) {
            found.add("parents(" + u + ") " + x.parents(u));
            found.add("reached(" + u + ") " + x.reached(u));
            found.add("around(" + u + ") " + x.around(u));
            for (int v = 0; v < n; v++) {
                if (u != v) {
                    String pair = "(" + u + ", " + v + ") ";
                    found.add("drawn" + pair + x.drawn(u, v));
                    found.add("covered" + pair + x.covered(u, v));
                    found.add("edge" + pair + x.edge(u, v));
                }
                if (u < v) {
                    found.add("separator(" + u + ", " + v + ") " + x.separator(u, v));
                    addSeparated(found, x, n, u, v);
                }
            }
        }
        found.add("forget() " + x.forget());
        addClass(found, x, n);
        return found;
    }

    private static void addClass(List<String> found, ArrowClasses x, int n) {
        found.add("members() " + x.members());
        found.add("loose() " + x.loose());
        found.add("turned() " + x.turned());
        for (int u = 0; u < n; u++) {
            for (int v = u + 1; v < n; v++) {
                found.add("first(" + u + ", " + v + ") " + x.first(u, v));
            }
        }
    }

    private static void addSeparated(List<String> found, ArrowClasses x, int n, int u, int v) {
        for (int set = 0; set < 1 << n; set++) {
            if ((set & (1 << u | 1 << v)) == 0) {
                found.add("separated(" + u + ", " + v + ", " + set + ") " + x.separated(u, v, set));
            }
        }
    }

    private static void same(String what, List<String> got, List<String> want) {
        for (int i = 0; i < want.size(); i++) {
            if (!got.get(i).equals(want.get(i))) {
                wrong++;
                System.out.println(sentence + " -- after " + what + ": " + got.get(i) + ", due is " + want.get(i));
                return;
            }
        }
    }

    /** One object with the refused call and one without it answer alike, whatever was asked before. */
    private static void refused(String what, int n, String arrows, String known, Predicate<ArrowClasses> call) {
        List<String> want = answers(graph(n, arrows, known), n);
        if (want.size() + 40 > MOST_CALLS) {
            throw new IllegalStateException("too many calls of one object");
        }
        ArrowClasses unasked = graph(n, arrows, known);
        due(what, call.test(unasked), false);
        same(what, answers(unasked, n), want);
        ArrowClasses asked = graph(n, arrows, known);
        asked.members();
        asked.separations();
        due(what + ", asked before", call.test(asked), false);
        same(what + ", asked before", answers(asked, n), want);
    }

    /** A triangle, then a tree; 3 to 2 is known against the drawn graph, so 2 to 0 and 2 to 1 follow. */
    private static final String MIXED = "01 12 02 23 34 35";
    private static final String MIXED_KNOWN = "32";

    private static void refusedMixed(String what, Predicate<ArrowClasses> call) {
        refused(what, 6, MIXED, MIXED_KNOWN, call);
    }

    private static void arrowRefused() {
        refusedMixed("arrow: u is no node", x -> x.arrow(6, 0) || x.arrow(-1, 0) || x.arrow(32, 4));
        refusedMixed("arrow: v is no node", x -> x.arrow(0, 6) || x.arrow(0, -1) || x.arrow(0, 36));
        refusedMixed("arrow: the same", x -> x.arrow(0, 0) || x.arrow(5, 5));
        refusedMixed("arrow: joined", x -> x.arrow(0, 1));
        refusedMixed("arrow: joined the other way", x -> x.arrow(1, 0));
        refusedMixed("arrow: joined as it is known", x -> x.arrow(3, 2));
        refusedMixed("arrow: ring", x -> x.arrow(4, 0));
        refusedMixed("arrow: ring at the end", x -> x.arrow(5, 2));
        refused("arrow: 9 arrows", 6, NINE, "10", x -> x.arrow(0, 4) || x.arrow(4, 0) || x.arrow(5, 0));
        refused("arrow: 9 arrows of 5 nodes", 5, NINE_FALLING, "34", x -> x.arrow(4, 0));
    }

    private static void eraseRefused() {
        refusedMixed("erase: not joined", x -> x.erase(0, 3) || x.erase(5, 4));
        refusedMixed("erase: the other way", x -> x.erase(1, 0));
        refusedMixed("erase: the other way, as it is known", x -> x.erase(3, 2));
        refusedMixed("erase: no node", x -> x.erase(6, 0) || x.erase(0, -1) || x.erase(32, 1) || x.erase(0, 33));
        refusedMixed("erase: the same", x -> x.erase(2, 2));
        refused("erase: no arrows", 6, "", "", x -> x.erase(0, 1));
        refused("erase: 9 arrows", 6, NINE, "10", x -> x.erase(1, 0) || x.erase(0, 4));
    }

    private static void turnRefused() {
        refusedMixed("turn: not joined", x -> x.turn(0, 3) || x.turn(5, 4));
        refusedMixed("turn: the other way", x -> x.turn(1, 0));
        refusedMixed("turn: the other way, as it is known", x -> x.turn(3, 2));
        refusedMixed("turn: no node", x -> x.turn(6, 0) || x.turn(0, -1) || x.turn(32, 1) || x.turn(0, 33));
        refusedMixed("turn: the same", x -> x.turn(2, 2));
        refusedMixed("turn: ring", x -> x.turn(0, 2));
        refused("turn: no arrows", 6, "", "", x -> x.turn(0, 1));
        refused("turn: ring with 9 arrows", 6, NINE, "10", x -> x.turn(0, 2));
        refused("turn: ring of six", 6, "01 12 23 34 45 05", "", x -> x.turn(0, 5));
    }

    private static void knowRefused() {
        refusedMixed("know: not joined", x -> x.know(0, 3) || x.know(5, 4));
        refusedMixed("know: no node", x -> x.know(6, 0) || x.know(0, -1) || x.know(32, 1) || x.know(0, 33));
        refusedMixed("know: the same", x -> x.know(2, 2));
        refusedMixed("know: against what is known", x -> x.know(2, 3));
        refusedMixed("know: against what follows from it", x -> x.know(0, 2) || x.know(1, 2));
        refused("know: ring", 4, "01 12 02", "01 12", x -> x.know(2, 0));
        refused("know: against a collision", 4, "01 12 32", "10", x -> x.know(2, 1) || x.know(2, 3));
        refused("know: a new collision", 4, "02 12 23", "", x -> x.know(3, 2));
        refused("know: no arrows", 6, "", "", x -> x.know(0, 1));
    }

    /** They are not refused, but they answer for no node, no set and no arrow; that changes nothing either. */
    private static void askingChangesNothing() {
        refusedMixed("drawn, covered, first", x -> x.drawn(6, 0) || x.covered(0, -1) || x.first(32, 1));
        refusedMixed("separated", x -> x.separated(0, 6, 0) || x.separated(0, 3, 64) || x.separated(0, 3, -4));
        refusedMixed("separator", x -> x.separator(6, 0) != NONE || x.separator(0, 1) != NONE);
        refusedMixed("parents, reached, around", x -> x.parents(6) + x.reached(-1) + x.around(32) != 3 * NONE);
        refusedMixed("edge", x -> x.edge(6, 0) + x.edge(0, 3) + x.edge(2, 2) != 0);
        refused("forget", 6, MIXED, "", x -> x.forget() != 0);
    }

    // Promise 1

    private static void otherN() {
        for (int n : new int[] {1, 0, -1, -2, -6, 7, 8, 32, 34, Integer.MAX_VALUE, Integer.MIN_VALUE}) {
            ArrowClasses x = new ArrowClasses(n);
            due("n " + n + ": node 5", x.reached(5), 32);
            due("n " + n + ": node 6", x.reached(6), NONE);
            due("n " + n + ": separations", x.separations(), 240);
        }
        for (int n = 2; n <= 6; n++) {
            due("n " + n + ": the last node", new ArrowClasses(n).reached(n - 1), 1 << n - 1);
            due("n " + n + ": no more", new ArrowClasses(n).reached(n), NONE);
        }
    }

    private static void noArrowsAtFirst() {
        int[] separations = {1, 6, 24, 80, 240};
        for (int n = 2; n <= 6; n++) {
            ArrowClasses x = new ArrowClasses(n);
            for (int u = 0; u < n; u++) {
                due("parents", x.parents(u), 0);
                due("around", x.around(u), 0);
                for (int v = 0; v < n; v++) {
                    due("drawn, covered, first", x.drawn(u, v) || x.covered(u, v) || x.first(u, v), false);
                    due("edge", x.edge(u, v), 0);
                    due("erase, turn, know", x.erase(u, v) || x.turn(u, v) || x.know(u, v), false);
                    due("separator", x.separator(u, v), u == v ? NONE : 0);
                }
            }
            due("collisions", x.collisions(), 0);
            due("separations", x.separations(), separations[n - 2]);
            due("loose", x.loose(), 0);
            due("members", x.members(), 1);
            due("turned", x.turned(), 0);
            due("forget", x.forget(), 0);
        }
    }

    // Promises 2 to 4

    private static void arrowJoined() {
        ArrowClasses x = graph(6, "01 32 05");
        for (String word : words("01 10 32 23 05 50")) {
            due("arrow " + word, x.arrow(word.charAt(0) - '0', word.charAt(1) - '0'), false);
        }
        due("parents of 1, 2 and 5", x.parents(1) + 100 * x.parents(2) + 10000 * x.parents(5), 10801);
        due("parents of 0 and 3", x.parents(0) + x.parents(3), 0);
    }

    private static void arrowBeyondNine() {
        ArrowClasses x = graph(6, NINE);
        for (String word : words("04 40 05 50 15 51 25 52 35 53 45 54")) {
            int u = word.charAt(0) - '0';
            int v = word.charAt(1) - '0';
            due("arrow " + word, x.arrow(u, v) || x.drawn(u, v), false);
        }
        due("a turn leaves nine", x.turn(3, 4) && !x.arrow(0, 5), true);
        due("eight, and nine again", x.erase(0, 1) && x.arrow(5, 0) && !x.arrow(0, 1), true);
        due("the same one again", x.erase(5, 0) && x.arrow(0, 1), true);
        due("a refused erase leaves nine", !x.erase(0, 5) && !x.arrow(0, 5), true);
    }

    private static void arrowRing() {
        ArrowClasses x = graph(6, "53 31 10");
        due("from the end to the beginning", x.arrow(0, 5), false);
        due("from the end to the middle", x.arrow(0, 3) || x.arrow(1, 5), false);
        due("from the beginning to the end", x.arrow(5, 0), true);
        due("a ring by either of two ways", x.arrow(0, 3), false);
        due("no ring beside it", x.arrow(0, 2) && x.arrow(4, 5), true);
        due("a ring over all of it", x.arrow(2, 4), false);
        ArrowClasses opened = graph(3, "01 12");
        due("no ring when an arrow is away", !opened.arrow(2, 0) && opened.erase(0, 1) && opened.arrow(2, 0), true);
    }

    private static void eraseNone() {
        for (int n = 2; n <= 6; n++) {
            ArrowClasses x = new ArrowClasses(n);
            due(n + " nodes: no arrows", x.erase(0, 1) || x.erase(n - 1, 0), false);
            x.arrow(n - 1, 0);
            due(n + " nodes: the other way", x.erase(0, n - 1), false);
            due(n + " nodes: there", x.erase(n - 1, 0), true);
            due(n + " nodes: once more", x.erase(n - 1, 0), false);
        }
        ArrowClasses x = graph(6, NINE);
        due("9 arrows: not joined", x.erase(0, 4) || x.erase(4, 0) || x.erase(5, 0), false);
        due("9 arrows: separations", x.separations(), 5 * 16 + 2);
        for (String word : words(NINE)) {
            due("9 arrows: " + word, x.erase(word.charAt(0) - '0', word.charAt(1) - '0'), true);
        }
        due("none left", x.separations(), 240);
    }

    private static void turnNone() {
        for (int n = 2; n <= 6; n++) {
            ArrowClasses x = new ArrowClasses(n);
            due(n + " nodes: no arrows", x.turn(0, 1) || x.turn(n - 1, 0), false);
            x.arrow(n - 1, 0);
            due(n + " nodes: the other way", x.turn(0, n - 1), false);
            due(n + " nodes: there", x.turn(n - 1, 0), true);
            due(n + " nodes: turned already", x.turn(n - 1, 0), false);
            due(n + " nodes: back", x.turn(0, n - 1), true);
            due(n + " nodes: as at first", x.parents(0), 1 << n - 1);
        }
    }

    /** A row of arrows beside one from its beginning to its end, which then can't be turned, but the others can. */
    private static void turnRing() {
        for (int length = 3; length <= 6; length++) {
            ArrowClasses x = new ArrowClasses(6);
            for (int v = 1; v < length; v++) {
                x.arrow(v - 1, v);
            }
            x.arrow(0, length - 1);
            due("ring of " + length, x.turn(0, length - 1), false);
            due("ring of " + length + ": not turned", x.drawn(0, length - 1), true);
            due("ring of " + length + ": another", x.turn(1, 2), true);
            due("ring of " + length + ": now there would be none", x.turn(0, length - 1), true);
        }
        ArrowClasses nine = graph(5, NINE);
        due("9 arrows: ring", nine.turn(0, 2) || nine.turn(1, 4), false);
        due("9 arrows: no ring", nine.turn(0, 1) && nine.turn(3, 4) && nine.turn(2, 4), true);
    }

    // Promises 5 to 10

    private static void drawnOneWay() {
        ArrowClasses x = graph(6, "50");
        due("drawn", x.drawn(5, 0), true);
        due("the other way", x.drawn(0, 5), false);
        due("not joined", x.drawn(5, 1), false);
        x.know(0, 5);
        due("known the other way, but not drawn", x.drawn(0, 5) || !x.drawn(5, 0), false);
    }

    private static void noNodeAlone() {
        for (int n = 2; n <= 6; n++) {
            ArrowClasses x = graph(n, "10");
            for (int w : noNodes(n)) {
                due(n + " nodes: parents(" + w + ")", x.parents(w), NONE);
                due(n + " nodes: reached(" + w + ")", x.reached(w), NONE);
                due(n + " nodes: around(" + w + ")", x.around(w), NONE);
            }
        }
    }

    private static void aroundWithoutItself() {
        ArrowClasses x = graph(6, "05 15 25 35 45");
        due("one of five parents", x.around(0), set(1, 2, 3, 4, 5));
        due("the child of five", x.around(5), set(0, 1, 2, 3, 4));
        ArrowClasses two = graph(6, "54 53 43");
        due("a parent that is a child's parent too", two.around(5), set(3, 4));
        due("a parent whose child is its own", two.around(4), set(3, 5));
        due("alone", two.around(0), 0);
    }

    private static void fewestAndMostCollisions() {
        due("no arrows", new ArrowClasses(6).collisions(), 0);
        due("9 arrows, none", graph(6, NINE).collisions(), 0);
        due("9 arrows, twelve", graph(6, "04 14 24 34 05 15 25 35 45").collisions(), 12);
        due("five parents", graph(6, "10 20 30 40 50").collisions(), 10);
        due("two nodes", graph(2, "01").collisions(), 0);
    }

    private static void coveredEdges() {
        due("neither has parents but u", graph(2, "10").covered(1, 0), true);
        due("the other way", graph(2, "10").covered(0, 1), false);
        due("no arrow, no parents", graph(3, "").covered(0, 1), false);
        due("no arrow, parents of v are those of u and u but for u", graph(3, "20 21").covered(0, 1), false);
        due("u has one that v has not", graph(3, "01 12").covered(1, 2), false);
        due("v has one that u has not", graph(3, "02 12").covered(0, 2), false);
        due("each has one of its own", graph(4, "01 12 32").covered(1, 2), false);
        due("as many, but others", graph(5, "01 12 32").covered(1, 2), false);
        due("both have three", graph(5, "03 13 23 04 14 24 34").covered(3, 4), true);
        due("v has one of three", graph(5, "03 13 23 04 34").covered(3, 4), false);
    }

    // Promises 11 to 13

    private static void setBelowNothing() {
        for (int n = 2; n <= 6; n++) {
            ArrowClasses x = new ArrowClasses(n);
            for (int set : new int[] {-1, -4, -(1 << n), -(1 << n) - 4, Integer.MIN_VALUE, Integer.MIN_VALUE + 4}) {
                due(n + " nodes: set " + set, x.separated(0, 1, set), false);
            }
            due(n + " nodes: set 0", x.separated(0, 1, 0), true);
        }
    }

    private static void setAboveAll() {
        for (int n = 2; n <= 6; n++) {
            ArrowClasses x = new ArrowClasses(n);
            int all = (1 << n) - 1;
            due(n + " nodes: all but x and y", x.separated(0, 1, all - 3), true);
            due(n + " nodes: all but x and y at the top", x.separated(n - 1, n - 2, all >> 2), true);
            due(n + " nodes: all", x.separated(0, 1, all), false);
            for (int set : new int[] {1 << n, all + 5, 1 << 2 * n, 1 << 30, Integer.MAX_VALUE - 3}) {
                due(n + " nodes: set " + set, x.separated(0, 1, set), false);
            }
        }
    }

    private static void setHoldsOne() {
        for (int n = 2; n <= 6; n++) {
            ArrowClasses x = new ArrowClasses(n);
            for (int set = 0; set < 1 << n; set++) {
                boolean outside = (set & 1) == 0 && (set >> n - 1 & 1) == 0;
                due(n + " nodes: 0, the last and " + set, x.separated(0, n - 1, set), outside);
                due(n + " nodes: the last, 0 and " + set, x.separated(n - 1, 0, set), outside);
            }
        }
    }

    private static void separatorFewest() {
        due("none needed", graph(6, "02 12").separator(0, 1), 0);
        due("the highest before two low ones", graph(6, "05 52 53 21 31").separator(0, 1), set(5));
        due("the highest before four low ones", graph(6, "05 51 52 53").separator(0, 3), set(5));
        due("all four others", graph(6, "02 03 04 05 21 31 41 51").separator(0, 1), set(2, 3, 4, 5));
        due("all three others of 5", graph(5, NINE).separator(0, 4), set(1, 2, 3));
    }

    private static void separatorLeast() {
        due("one of two", graph(4, "03 32 21").separator(0, 1), set(2));
        due("one of four", graph(6, "05 54 43 32 21").separator(0, 1), set(2));
        due("from the other end", graph(6, "05 54 43 32 21").separator(1, 0), set(2));
        due("two of four", graph(6, "05 52 21 03 34 41").separator(0, 1), set(2, 3));
    }

    private static void separatorNone() {
        for (int n = 2; n <= 6; n++) {
            due(n + " nodes: joined", graph(n, "01").separator(0, 1), NONE);
            due(n + " nodes: joined the other way", graph(n, "01").separator(1, 0), NONE);
        }
        ArrowClasses nine = graph(6, NINE);
        due("9 arrows: joined", nine.separator(0, 1) + nine.separator(3, 4), 2 * NONE);
        due("9 arrows: not joined", nine.separator(4, 5), 0);
    }

    private static void fewestAndMostSeparations() {
        due("no arrows", new ArrowClasses(6).separations(), 240);
        due("two nodes", new ArrowClasses(2).separations(), 1);
        due("two nodes, joined", graph(2, "10").separations(), 0);
        due("all of three joined", graph(3, "01 02 12").separations(), 0);
        due("all of four joined", graph(4, "01 02 03 12 13 23").separations(), 0);
        due("9 arrows of 5 nodes: one pair, one set", graph(5, NINE).separations(), 1);
        // Node 5 and any other by each of 16 sets, and 0 and 4 by 1, 2 and 3 with or without 5.
        due("9 arrows of 6 nodes", graph(6, NINE).separations(), 5 * 16 + 2);
    }

    // Promises 14 to 20

    private static void edgeNotJoined() {
        ArrowClasses x = graph(6, "12 32 24");
        due("not joined", x.edge(1, 3) + x.edge(3, 1) + x.edge(0, 5) + x.edge(1, 4), 0);
        due("no arrows", new ArrowClasses(2).edge(0, 1), 0);
        due("9 arrows", graph(5, NINE).edge(0, 4) + graph(5, NINE).edge(4, 0), 0);
        x.erase(1, 2);
        due("not joined any more", x.edge(1, 2), 0);
    }

    private static void edgeOfAllMembers() {
        ArrowClasses x = graph(6, "12 32 24 05");
        due("in a collision", 10 * x.edge(1, 2) + x.edge(2, 1), 12);
        due("behind a collision", 10 * x.edge(2, 4) + x.edge(4, 2), 12);
        due("falling", 10 * x.edge(3, 2) + x.edge(2, 3), 12);
        due("not all", 10 * x.edge(0, 5) + x.edge(5, 0), 33);
        x.know(5, 0);
        due("all, since it is known", 10 * x.edge(0, 5) + x.edge(5, 0), 21);
        x.forget();
        x.know(0, 5);
        due("all, since the other is known", 10 * x.edge(0, 5) + x.edge(5, 0), 12);
        ArrowClasses chain = graph(3, "01 12", "01");
        due("all, since it follows", 10 * chain.edge(1, 2) + chain.edge(2, 1), 12);
    }

    private static void fewestAndMostLoose() {
        due("no arrows", new ArrowClasses(6).loose(), 0);
        due("9 arrows, all loose", graph(5, NINE).loose(), 9);
        due("9 arrows, none loose", graph(6, "03 04 05 13 14 15 23 24 25").loose(), 0);
        due("9 arrows, none loose, falling", graph(6, "30 40 50 31 41 51 32 42 52").loose(), 0);
        due("fixed both ways, and one loose", graph(5, "01 21 34").loose(), 1);
        // After 0 to 1, node 4 can have no child without a collision; all but its arrows and 0 to 1 stay loose.
        due("9 arrows, one known", graph(5, NINE, "01").loose(), 5);
        due("all known", graph(5, NINE, NINE).loose(), 0);
    }

    private static void knownAlready() {
        ArrowClasses x = graph(4, "01 12 32", "10");
        due("once more", x.know(1, 0) && x.know(1, 0), true);
        due("members", x.members(), 1);
        due("one that all members have", x.know(1, 2) && x.know(1, 2), true);
        ArrowClasses chain = graph(3, "01 12", "01");
        due("one that follows", chain.know(1, 2), true);
        due("one that follows: members", chain.members(), 1);
        ArrowClasses nine = graph(5, NINE_FALLING, NINE_FALLING);
        for (String word : words(NINE_FALLING)) {
            due("once more " + word, nine.know(word.charAt(0) - '0', word.charAt(1) - '0'), true);
        }
        due("nine known: members", nine.members(), 1);
    }

    private static void eachCountedOnce() {
        ArrowClasses x = graph(4, "01 12 32", "10 12 10 12 10");
        due("three times and twice", x.forget(), 2);
        due("one refused", x.know(0, 1) && !x.know(1, 0) && !x.know(2, 1), true);
        due("one refused: forget", x.forget(), 1);
        due("one that all members have", graph(4, "01 12 32", "32").forget(), 1);
        due("one that follows, if it is not known by know()", graph(3, "01 12", "01").forget(), 1);
        due("one that follows, if it is", graph(3, "01 12", "01 12").forget(), 2);
        due("all nine twice", graph(5, NINE_FALLING, NINE_FALLING + " " + NINE_FALLING).forget(), 9);
    }

    private static void knownByNoMember() {
        ArrowClasses x = graph(6, "01 12 32 24");
        due("not joined", x.know(0, 2) || x.know(5, 0), false);
        due("against a collision", x.know(2, 1) || x.know(2, 3), false);
        due("there would be a new collision", x.know(4, 2), false);
        due("some member has it", x.know(1, 0), true);
        due("against what is known", x.know(0, 1), false);
        due("one known", x.forget(), 1);
        due("no more against what is known", x.know(0, 1), true);
        ArrowClasses kite = graph(4, "01 02 03 13 23");
        due("there would be a ring or a collision", kite.know(3, 0), false);
        ArrowClasses ring = graph(3, "01 02 12", "12 20");
        due("there would be a ring", ring.know(0, 1), false);
        ArrowClasses chain = graph(6, "01 12 23 34 45", "01");
        due("against what follows", chain.know(5, 4) || chain.know(2, 1), false);
        due("only the one is known", chain.forget(), 1);
        due("none of an erased arrow", chain.erase(4, 5) && !chain.know(4, 5) && !chain.know(5, 4), true);
    }

    private static void forgotten() {
        ArrowClasses x = graph(5, NINE, "10 43");
        int few = x.members();
        due("two known", x.forget(), 2);
        due("none known", x.forget(), 0);
        due("members", x.members(), 42);
        due("fewer before", few < 42, true);
        due("first", x.first(0, 1) && x.first(3, 4), true);
        due("the other ways may be known", x.know(0, 1) && x.know(3, 4), true);
        due("and two again", x.forget(), 2);
    }

    private static void forgetNothing() {
        due("a new object", new ArrowClasses(2).forget(), 0);
        ArrowClasses x = graph(4, "01 12 32");
        due("arrows, but none known", x.forget(), 0);
        due("a refused one", x.know(2, 1) || x.forget() != 0, false);
        due("once more", x.forget(), 0);
        due("nothing has changed", x.members(), 2);
    }

    private static void fewestAndMostMembers() {
        due("no arrows", new ArrowClasses(6).members(), 1);
        due("no arrows of 2 nodes", new ArrowClasses(2).members(), 1);
        due("9 arrows, all fixed", graph(6, "03 04 05 13 14 15 23 24 25").members(), 1);
        // Three nodes in any of 6 orders; of 0 and 4 one must come after them: 7 of 16 places.
        due("9 arrows of 5 nodes", graph(5, NINE).members(), 42);
        // Node 0 first of four and any order of three, or not first of four and first of three.
        due("9 arrows of 6 nodes", graph(6, "01 02 03 12 13 23 04 05 45").members(), 6 * 6 + 18 * 2);
        due("all known", graph(5, NINE, NINE).members(), 1);
    }

    private static void firstHasNone() {
        ArrowClasses x = graph(6, "10 21");
        due("not joined", x.first(0, 2) || x.first(2, 0) || x.first(4, 5), false);
        due("drawn, but not in the first", x.first(1, 0) || x.first(2, 1), false);
        due("not drawn, but in the first", x.first(0, 1) && x.first(1, 2), true);
        due("no arrows", new ArrowClasses(2).first(0, 1), false);
        x.know(2, 1);
        due("known", x.first(2, 1) && x.first(1, 0), true);
    }

    private static void fewestAndMostTurned() {
        due("no arrows", new ArrowClasses(6).turned(), 0);
        due("9 arrows, none", graph(5, NINE).turned(), 0);
        due("9 arrows, all", graph(5, NINE_FALLING).turned(), 9);
        due("9 arrows, all by what is known", graph(5, NINE, NINE_FALLING).turned(), 9);
        due("9 arrows, none by what is known", graph(5, NINE_FALLING, NINE_FALLING).turned(), 0);
    }

    private static void terms() {
        test("An object is used for at most 512 calls", BoundariesTest::lastCall);
        test("NODES are 0 .. n - 1", BoundariesTest::nodesOfEachN);
        test("A SET of nodes is the sum of 2 to the power of its members", BoundariesTest::setsAsNumbers);
        test("At most one arrow between two nodes in either direction", BoundariesTest::oneArrowBetweenTwo);
        test("No row of one or more arrows that comes back to where it began", BoundariesTest::ringsOfAllLengths);
        test("A node REACHES itself and every node to which a row goes", BoundariesTest::reachesItself);
        test("The DRAWN graph has at most 9 arrows", BoundariesTest::atMostNineArrows);
        test("A PATH between x and y is a row of different nodes", BoundariesTest::pathsShortAndLong);
        test("A node that is not at its end MEETS", BoundariesTest::endsDoNotMeet);
        test("A set BLOCKS the path", BoundariesTest::blockedPaths);
        test("Every path is blocked, also when there is none", BoundariesTest::noPath);
        test("COLLISIONS are the same when all three nodes are", BoundariesTest::sameCollisions);
        test("The drawn graph is a member, if nothing is known", BoundariesTest::drawnIsMember);
        test("At first no arrow is known", BoundariesTest::nothingKnownAtFirst);
        test("Whenever the drawn graph has changed, no arrow is known", BoundariesTest::nothingKnownAfterChange);
        test("THE FIRST member has the arrow at the first pair where they differ", BoundariesTest::firstOfSeveral);
        test("A refused call of arrow changes nothing", BoundariesTest::arrowRefused);
        test("A refused call of erase changes nothing", BoundariesTest::eraseRefused);
        test("A refused call of turn changes nothing", BoundariesTest::turnRefused);
        test("A refused call of know changes nothing", BoundariesTest::knowRefused);
        test("A call that only asks changes nothing", BoundariesTest::askingChangesNothing);
    }

    private static void drawing() {
        test("Promise 1: 6 if n is not 2 .. 6", BoundariesTest::otherN);
        test("Promise 1: no arrows", BoundariesTest::noArrowsAtFirst);
        test("Promise 2: u or v is no node", () -> noNode((x, u, v) -> number(x.arrow(u, v)), 0));
        test("Promise 2: they are the same", () -> sameNode((x, u, v) -> number(x.arrow(u, v)), 0));
        test("Promise 2: or joined", BoundariesTest::arrowJoined);
        test("Promise 2: there are 9 arrows", BoundariesTest::arrowBeyondNine);
        test("Promise 2: there would be a ring", BoundariesTest::arrowRing);
        test("Promise 3: if there is none", BoundariesTest::eraseNone);
        test("Promise 3: none at no node", () -> noNode((x, u, v) -> number(x.erase(u, v)), 0));
        test("Promise 3: none at the same", () -> sameNode((x, u, v) -> number(x.erase(u, v)), 0));
        test("Promise 4: there is no arrow from u to v", BoundariesTest::turnNone);
        test("Promise 4: none at no node", () -> noNode((x, u, v) -> number(x.turn(u, v)), 0));
        test("Promise 4: none at the same", () -> sameNode((x, u, v) -> number(x.turn(u, v)), 0));
        test("Promise 4: there would be a ring", BoundariesTest::turnRing);
        test("Promise 5: whether there is an arrow from u to v", BoundariesTest::drawnOneWay);
        test("Promise 5: none at no node", () -> noNode((x, u, v) -> number(x.drawn(u, v)), 0));
        test("Promise 5: none at the same", () -> sameNode((x, u, v) -> number(x.drawn(u, v)), 0));
        test("Promises 6, 7, 8: NONE if it is no node", BoundariesTest::noNodeAlone);
        test("Promise 8: without u itself", BoundariesTest::aroundWithoutItself);
        test("Promise 9: the number of collisions", BoundariesTest::fewestAndMostCollisions);
        test("Promise 10: the parents of v are those of u and u", BoundariesTest::coveredEdges);
        test("Promise 10: no arrow at no node", () -> noNode((x, u, v) -> number(x.covered(u, v)), 0));
        test("Promise 10: no arrow at the same", () -> sameNode((x, u, v) -> number(x.covered(u, v)), 0));
    }

    private static void separating() {
        test("Promise 11: x or y is no node", () -> noNode((x, u, v) -> number(x.separated(u, v, 0)), 0));
        test("Promise 11: they are the same", () -> sameNode((x, u, v) -> number(x.separated(u, v, 0)), 0));
        test("Promise 11: set is not from 0", BoundariesTest::setBelowNothing);
        test("Promise 11: to 2 to the power of n less 1", BoundariesTest::setAboveAll);
        test("Promise 11: x or y is in it", BoundariesTest::setHoldsOne);
        test("Promise 12: the one with the fewest nodes", BoundariesTest::separatorFewest);
        test("Promise 12: of several such the least number", BoundariesTest::separatorLeast);
        test("Promise 12: NONE if there is no such set", BoundariesTest::separatorNone);
        test("Promise 12: x or y is no node", () -> noNode(ArrowClasses::separator, NONE));
        test("Promise 12: they are the same", () -> sameNode(ArrowClasses::separator, NONE));
        test("Promise 13: of how many pairs and sets", BoundariesTest::fewestAndMostSeparations);
    }

    private static void classes() {
        test("Promise 14: 0 if they are not joined", BoundariesTest::edgeNotJoined);
        test("Promise 14: or one is no node", () -> noNode(ArrowClasses::edge, 0));
        test("Promise 14: or they are the same", () -> sameNode(ArrowClasses::edge, 0));
        test("Promise 14: 1, 2 if all members have it, 3 otherwise", BoundariesTest::edgeOfAllMembers);
        test("Promise 15: the number of pairs joined differently", BoundariesTest::fewestAndMostLoose);
        test("Promise 16: true, also if it is known already", BoundariesTest::knownAlready);
        test("Promise 16: refused if no member has it", BoundariesTest::knownByNoMember);
        test("Promise 16: none has one at no node", () -> noNode((x, u, v) -> number(x.know(u, v)), 0));
        test("Promise 16: none has one at the same", () -> sameNode((x, u, v) -> number(x.know(u, v)), 0));
        test("Promise 17: no arrow is known any more", BoundariesTest::forgotten);
        test("Promise 17: how many were known, if none was", BoundariesTest::forgetNothing);
        test("Promise 17: each counted once", BoundariesTest::eachCountedOnce);
        test("Promise 18: the number of members", BoundariesTest::fewestAndMostMembers);
        test("Promise 19: whether the first member has an arrow", BoundariesTest::firstHasNone);
        test("Promise 19: none at no node", () -> noNode((x, u, v) -> number(x.first(u, v)), 0));
        test("Promise 19: none at the same", () -> sameNode((x, u, v) -> number(x.first(u, v)), 0));
        test("Promise 20: how many arrows go the other way", BoundariesTest::fewestAndMostTurned);
    }

    public static void main(String[] args) {
        terms();
        drawing();
        separating();
        classes();
        System.out.println(sentences + " sentences: "
                + (wrong == 0 ? "all answers are as due" : wrong + " answers are not as due"));
        if (wrong != 0) {
            System.exit(1);
        }
    }
}
