/** Each promise by hand: ordinary inputs, the edges that the document names, and wrong inputs. */
public final class PromisesTest {
    private static final int[] WRONG = {-1, 6, 7, 31, 32, 33, -32, Integer.MAX_VALUE, Integer.MIN_VALUE};
    private static int wrong = 0;

    private static void due(String what, int got, int want) {
        if (got != want) {
            wrong++;
            System.out.println(what + " answered " + got + ", due is " + want);
        }
    }

    private static void due(String what, boolean got, boolean want) {
        due(what, got ? 1 : 0, want ? 1 : 0);
    }

    /** A graph from "01 12 32": each word an arrow from its first node to its second. */
    private static ArrowClasses graph(int n, String arrows) {
        ArrowClasses x = new ArrowClasses(n);
        for (String word : arrows.split(" ")) {
            if (!word.isEmpty()) {
                due("arrow " + word + " of " + arrows, x.arrow(word.charAt(0) - '0', word.charAt(1) - '0'), true);
            }
        }
        return x;
    }

    private static int set(int... nodes) {
        int sum = 0;
        for (int v : nodes) {
            sum += 1 << v;
        }
        return sum;
    }

    private static void newObject() {
        for (int n = 2; n <= 6; n++) {
            ArrowClasses x = new ArrowClasses(n);
            due("1: last node of " + n, x.parents(n - 1), 0);
            due("1: node after the last of " + n, x.parents(n), -1);
        }
        for (int n : new int[] {1, 0, -1, 7, 8, Integer.MAX_VALUE, Integer.MIN_VALUE}) {
            ArrowClasses x = new ArrowClasses(n);
            due("1: last node of " + n, x.parents(5), 0);
            due("1: node after the last of " + n, x.parents(6), -1);
            due("1: arrows of " + n, x.collisions() + x.loose() + x.forget() + x.turned(), 0);
            due("1: members of " + n, x.members(), 1);
            due("1: separations of " + n, x.separations(), 15 * 16);
        }
        for (int u = 0; u < 6; u++) {
            due("1: parents", new ArrowClasses(6).parents(u), 0);
        }
        due("1: separations of 2 nodes", new ArrowClasses(2).separations(), 1);
        due("1: NONE", ArrowClasses.NONE, -1);
    }

    private static void arrow() {
        ArrowClasses x = graph(4, "01 12");
        due("2: drawn", x.drawn(0, 1), true);
        due("2: joined already", x.arrow(0, 1), false);
        due("2: joined the other way", x.arrow(1, 0), false);
        due("2: ring of three", x.arrow(2, 0), false);
        due("2: same", x.arrow(3, 3), false);
        for (int v : WRONG) {
            due("2: no node " + v, x.arrow(0, v) || x.arrow(v, 0) || x.arrow(v, v), false);
        }
        due("2: no node 4 of 4", x.arrow(0, 4) || x.arrow(4, 0), false);
        due("2: parents after refusals", x.parents(0) + 100 * x.parents(1) + 10000 * x.parents(2), 20100);
        due("2: with the way, no ring", x.arrow(0, 2), true);
        ArrowClasses full = graph(6, "01 02 03 04 05 12 13 14 15");
        due("2: a tenth arrow", full.arrow(2, 3), false);
        due("2: the tenth is not drawn", full.drawn(2, 3), false);
        due("2: room again", full.erase(0, 1) && full.arrow(2, 3), true);
        due("2: long ring", graph(6, "54 43 32 21 10").arrow(0, 5), false);
        ArrowClasses known = graph(3, "01 12");
        known.know(0, 1);
        due("2: refused keeps what is known", known.arrow(2, 0), false);
        due("2: members after refusal", known.members(), 1);
        due("2: a change makes nothing known", known.arrow(0, 2), true);
        due("2: nothing known", known.forget(), 0);
    }

    private static void erase() {
        ArrowClasses x = graph(4, "01 12");
        due("3: other way", x.erase(1, 0), false);
        due("3: none", x.erase(0, 3), false);
        due("3: same", x.erase(1, 1), false);
        for (int v : WRONG) {
            due("3: no node " + v, x.erase(0, v) || x.erase(v, 0) || x.erase(v, v), false);
        }
        x.know(0, 1);
        due("3: refused keeps what is known", x.erase(2, 1) || x.members() != 1, false);
        due("3: there", x.erase(0, 1), true);
        due("3: away", x.drawn(0, 1), false);
        due("3: again", x.erase(0, 1), false);
        due("3: the other stays", x.drawn(1, 2), true);
        due("3: nothing known", x.forget(), 0);
        due("3: members", x.members(), 2);
        due("3: may be drawn the other way", x.arrow(1, 0), true);
    }

    private static void turn() {
        ArrowClasses x = graph(4, "01 12 02");
        due("4: ring", x.turn(0, 2), false);
        due("4: not turned", x.drawn(0, 2) && !x.drawn(2, 0), true);
        due("4: other way", x.turn(1, 0), false);
        due("4: none", x.turn(0, 3), false);
        due("4: same", x.turn(1, 1), false);
        for (int v : WRONG) {
            due("4: no node " + v, x.turn(0, v) || x.turn(v, 0) || x.turn(v, v), false);
        }
        x.know(0, 2);
        due("4: refused keeps what is known", x.turn(0, 2) || x.members() != 3, false);
        due("4: turns", x.turn(0, 1), true);
        due("4: turned", x.drawn(1, 0) && !x.drawn(0, 1), true);
        due("4: nothing known", x.forget(), 0);
        due("4: reaches after it", x.reached(1), set(0, 1, 2));
        ArrowClasses full = graph(6, "01 02 03 04 05 12 13 14 15");
        due("4: turns with nine arrows", full.turn(0, 1) && full.drawn(1, 0), true);
        due("4: ring by a long way", graph(6, "01 12 23 34 45 05").turn(0, 5), false);
    }

    private static void drawn() {
        ArrowClasses x = graph(5, "04 42");
        for (int u = 0; u < 5; u++) {
            for (int v = 0; v < 5; v++) {
                due("5: drawn " + u + v, x.drawn(u, v), u == 0 && v == 4 || u == 4 && v == 2);
            }
        }
        for (int v : WRONG) {
            due("5: no node " + v, x.drawn(0, v) || x.drawn(v, 4) || x.drawn(v, v), false);
        }
        due("5: no node that a shift would bring round", x.drawn(32, 4) || x.drawn(0, 36), false);
    }

    private static void parents() {
        ArrowClasses x = graph(5, "04 24 34 02");
        due("6: three", x.parents(4), set(0, 2, 3));
        due("6: not the parents' parents", x.parents(2), set(0));
        due("6: none", x.parents(0), 0);
        for (int v : WRONG) {
            due("6: no node " + v, x.parents(v), -1);
        }
        due("6: no node 5 of 5", x.parents(5), -1);
    }

    private static void reached() {
        ArrowClasses x = graph(6, "54 43 32 21 10");
        due("7: all", x.reached(5), 63);
        due("7: itself", x.reached(0), 1);
        due("7: not against arrows", x.reached(2), set(0, 1, 2));
        due("7: upward", graph(6, "01 12 23 34 45").reached(0), 63);
        for (int v : WRONG) {
            due("7: no node " + v, x.reached(v), -1);
        }
        due("7: no node 3 of 3", graph(3, "01").reached(3), -1);
    }

    private static void around() {
        ArrowClasses x = graph(6, "02 12 23 34 53");
        due("8: parents, children, children's parents", x.around(2), set(0, 1, 3, 5));
        due("8: the other parent", x.around(0), set(1, 2));
        due("8: not the child's child", x.around(5), set(2, 3));
        due("8: parent alone", x.around(4), set(3));
        due("8: nobody", new ArrowClasses(6).around(3), 0);
        for (int v : WRONG) {
            due("8: no node " + v, x.around(v), -1);
        }
        due("8: no node 2 of 2", graph(2, "01").around(2), -1);
    }

    private static void collisions() {
        due("9: none", graph(3, "01 12").collisions(), 0);
        due("9: fork", graph(3, "10 12").collisions(), 0);
        due("9: one", graph(3, "01 21").collisions(), 1);
        due("9: joined parents", graph(3, "01 21 02").collisions(), 0);
        due("9: three parents", graph(4, "03 13 23").collisions(), 3);
        due("9: three parents, two joined", graph(4, "03 13 23 01").collisions(), 2);
        due("9: five parents", graph(6, "05 15 25 35 45").collisions(), 10);
        due("9: two children", graph(4, "02 12 03 13").collisions(), 2);
        due("9: three by three", graph(6, "03 04 05 13 14 15 23 24 25").collisions(), 9);
    }

    private static void covered() {
        ArrowClasses x = graph(5, "01 02 12 32 34");
        due("10: no parents but u", x.covered(0, 1), true);
        due("10: v has one more", x.covered(1, 2), false);
        due("10: other way", x.covered(1, 0), false);
        due("10: not joined", x.covered(0, 4), false);
        due("10: same", x.covered(0, 0), false);
        due("10: both have 0", graph(3, "01 02 12").covered(1, 2), true);
        due("10: u has one more", graph(3, "01 12").covered(1, 2), false);
        for (int v : WRONG) {
            due("10: no node " + v, x.covered(0, v) || x.covered(v, 1) || x.covered(v, v), false);
        }
    }

    private static void separated() {
        ArrowClasses chain = graph(4, "01 12");
        due("11: chain, open", chain.separated(0, 2, 0), false);
        due("11: chain, blocked", chain.separated(0, 2, set(1)), true);
        due("11: chain, from the other end", chain.separated(2, 0, set(1)), true);
        due("11: joined", chain.separated(0, 1, 0) || chain.separated(1, 0, set(2, 3)), false);
        due("11: no path", chain.separated(0, 3, 0) && chain.separated(3, 1, set(0, 2)), true);
        ArrowClasses fork = graph(3, "10 12");
        due("11: fork", fork.separated(0, 2, set(1)) && !fork.separated(0, 2, 0), true);
        ArrowClasses meet = graph(5, "02 12 23 34");
        due("11: meets, nothing in the set", meet.separated(0, 1, 0), true);
        due("11: meets, in the set", meet.separated(0, 1, set(2)), false);
        due("11: meets, reaches the set", meet.separated(0, 1, set(3)) || meet.separated(0, 1, set(4)), false);
        due("11: in the set and does not meet", meet.separated(0, 3, set(2)), true);
        // 0 to 2 is open by 1 alone when 1, which meets for 0 and 3, is in the set
        ArrowClasses m = graph(4, "01 31 32");
        due("11: two to pass", m.separated(0, 2, set(1)), false);
        due("11: two to pass, the second blocked", m.separated(0, 2, set(1, 3)), true);
        for (int v : WRONG) {
            due("11: no node " + v, chain.separated(0, v, 0) || chain.separated(v, 3, 0) || chain.separated(v, v, 0),
                    false);
        }
        due("11: no node 4 of 4", chain.separated(0, 4, 0) || chain.separated(4, 0, 0), false);
        due("11: same", chain.separated(3, 3, 0), false);
        due("11: x in the set", chain.separated(0, 3, set(0)), false);
        due("11: y in the set", chain.separated(0, 3, set(3)), false);
        due("11: greatest set", graph(4, "").separated(0, 1, 12), true);
        due("11: set too great", chain.separated(0, 3, 16) || chain.separated(0, 3, 1 << 30), false);
        due("11: set below 0", chain.separated(0, 3, -16) || chain.separated(0, 3, Integer.MIN_VALUE), false);
        due("11: top node of 6", new ArrowClasses(6).separated(0, 1, 60), true);
    }

    private static void separator() {
        due("12: empty", graph(3, "01 21").separator(0, 2), 0);
        due("12: one", graph(3, "01 12").separator(0, 2), set(1));
        due("12: joined", graph(3, "01 12").separator(0, 1), -1);
        due("12: two", graph(4, "01 13 02 23").separator(0, 3), set(1, 2));
        due("12: of several the least number", graph(4, "03 32 21").separator(0, 1), set(2));
        due("12: one great before two small", graph(6, "05 51 52 13 23").separator(0, 3), set(5));
        due("12: one great before two small, other way", graph(6, "05 51 52 13 23").separator(3, 0), set(5));
        due("12: four", graph(6, "02 03 04 05 21 31 41 51").separator(0, 1), set(2, 3, 4, 5));
        ArrowClasses x = graph(4, "01");
        for (int v : WRONG) {
            due("12: no node " + v, x.separator(0, v) + x.separator(v, 0) + x.separator(v, v), -3);
        }
        due("12: no node 4 of 4", x.separator(0, 4), -1);
        due("12: same", x.separator(2, 2), -1);
    }

    private static void separations() {
        due("13: none of two joined", graph(2, "01").separations(), 0);
        due("13: two apart", graph(2, "").separations(), 1);
        due("13: chain", graph(3, "01 12").separations(), 1);
        due("13: meeting", graph(3, "01 21").separations(), 1);
        due("13: three, one alone", graph(3, "01").separations(), 4);
        due("13: all joined", graph(4, "01 02 03 12 13 23").separations(), 0);
        ArrowClasses x = graph(4, "01 12 32");
        due("13: before a change", x.separations(), 7);
        due("13: after a refusal", x.arrow(2, 0) || x.separations() != 7, false);
        x.erase(3, 2);
        due("13: after a change", x.separations(), 14);
        x.turn(0, 1);
        due("13: the same after a turn inside the class", x.separations(), 14);
        x.arrow(3, 2);
        due("13: after an arrow", x.separations(), 7);
        x.know(0, 1);
        due("13: what is known is no matter", x.separations(), 7);
    }

    private static void edge() {
        ArrowClasses x = graph(4, "01 12 32");
        due("14: loose", x.edge(0, 1), 3);
        due("14: loose from the other end", x.edge(1, 0), 3);
        due("14: fixed", x.edge(1, 2), 1);
        due("14: fixed from the other end", x.edge(2, 1), 2);
        due("14: fixed, falling", x.edge(3, 2), 1);
        due("14: fixed, falling from the other end", x.edge(2, 3), 2);
        due("14: not joined", x.edge(0, 2), 0);
        due("14: same", x.edge(1, 1), 0);
        for (int v : WRONG) {
            due("14: no node " + v, x.edge(0, v) + x.edge(v, 0) + x.edge(v, v), 0);
        }
        x.know(1, 0);
        due("14: known", x.edge(0, 1) * 10 + x.edge(1, 0), 21);
        x.forget();
        due("14: forgotten", x.edge(0, 1), 3);
        // no collision holds 2 to 3, but the other way there would be one
        due("14: fixed by what would collide", graph(4, "02 12 23").edge(2, 3), 1);
        // nor 0 to 3 here, but the other way there would be a ring or a collision
        ArrowClasses kite = graph(4, "01 02 03 13 23");
        due("14: fixed by what would be a ring", kite.edge(0, 3), 1);
        due("14: loose beside it", kite.edge(0, 1), 3);
    }

    private static void loose() {
        due("15: no arrows", graph(4, "").loose(), 0);
        due("15: one arrow", graph(2, "10").loose(), 1);
        due("15: chain", graph(6, "01 12 23 34 45").loose(), 5);
        due("15: collision", graph(3, "01 21").loose(), 0);
        due("15: kite", graph(4, "01 02 03 13 23").loose(), 2);
        ArrowClasses x = graph(6, "01 12 23 34 45");
        x.know(2, 3);
        due("15: known", x.loose(), 2);
        x.know(1, 2);
        due("15: two known", x.loose(), 1);
        x.forget();
        due("15: forgotten", x.loose(), 5);
    }

    private static void know() {
        ArrowClasses x = graph(4, "01 12 32");
        due("16: against a collision", x.know(2, 1), false);
        due("16: as all have it", x.know(1, 2), true);
        due("16: not joined", x.know(0, 2), false);
        due("16: same", x.know(1, 1), false);
        for (int v : WRONG) {
            due("16: no node " + v, x.know(0, v) || x.know(v, 0) || x.know(v, v), false);
        }
        due("16: falling", x.know(1, 0), true);
        due("16: again", x.know(1, 0), true);
        due("16: against what is known", x.know(0, 1), false);
        due("16: refused changes nothing", x.members(), 1);
        due("16: known each once", x.forget(), 2);
        ArrowClasses chain = graph(3, "01 12");
        due("16: rising", chain.know(0, 1), true);
        due("16: no member for both", chain.know(2, 1), false);
        due("16: but for the other", chain.know(1, 2), true);
        ArrowClasses ring = graph(3, "01 02 12");
        due("16: two of a ring", ring.know(0, 1) && ring.know(1, 2), true);
        due("16: the third of a ring", ring.know(2, 0), false);
        due("16: the drawn graph stays", ring.drawn(0, 2), true);
    }

    private static void forget() {
        ArrowClasses x = graph(4, "01 12 23");
        due("17: nothing known", x.forget(), 0);
        x.know(0, 1);
        due("17: what follows from it is not counted", x.forget(), 1);
        due("17: forgotten", x.forget(), 0);
        due("17: members", x.members(), 4);
        due("17: knows two falling", x.know(1, 0) && x.know(2, 1) && x.know(1, 0), true);
        due("17: members of two falling", x.members(), 2);
        due("17: each once", x.forget(), 2);
        due("17: the other way may be known now", x.know(0, 1), true);
        x.turn(0, 1);
        due("17: a change made nothing known", x.forget(), 0);
    }

    private static void members() {
        due("18: no arrows", graph(6, "").members(), 1);
        due("18: one arrow", graph(2, "01").members(), 2);
        due("18: chain", graph(6, "01 12 23 34 45").members(), 6);
        due("18: star", graph(6, "01 02 03 04 05").members(), 6);
        due("18: all joined", graph(4, "01 02 03 12 13 23").members(), 24);
        due("18: two parts", graph(6, "01 12 34 45").members(), 9);
        due("18: three by three", graph(6, "03 04 05 13 14 15 23 24 25").members(), 1);
        due("18: nine arrows, all loose", graph(5, "01 02 03 04 12 13 14 23 24").loose(), 9);
        due("18: collision", graph(3, "01 21").members(), 1);
        due("18: kite", graph(4, "01 02 03 13 23").members(), 3);
        ArrowClasses x = graph(4, "01 02 03 12 13 23");
        x.know(3, 2);
        due("18: known", x.members(), 12);
        x.erase(0, 1);
        due("18: after a change", x.members(), graph(4, "02 03 12 13 23").members());
    }

    private static void first() {
        ArrowClasses x = graph(4, "10 21 32");
        due("19: rising though drawn falling", x.first(0, 1) && x.first(1, 2) && x.first(2, 3), true);
        due("19: not falling", x.first(1, 0) || x.first(2, 1), false);
        due("19: not joined", x.first(0, 2) || x.first(0, 3), false);
        due("19: same", x.first(1, 1), false);
        for (int v : WRONG) {
            due("19: no node " + v, x.first(0, v) || x.first(v, 1) || x.first(v, v), false);
        }
        x.know(2, 1);
        due("19: with what is known", x.first(1, 0) && x.first(2, 1) && x.first(2, 3), true);
        x.forget();
        due("19: forgotten", x.first(0, 1), true);
        // either 0 to 4 or 1 to 2 can be had, and the pair 0, 4 is before 1, 2
        ArrowClasses y = graph(5, "12 24 40");
        due("19: the earlier pair wins", y.first(0, 4) && y.first(4, 2) && y.first(2, 1), true);
        due("19: a collision stays", graph(3, "21 01").first(2, 1), true);
    }

    private static void turned() {
        due("20: no arrows", graph(4, "").turned(), 0);
        due("20: none", graph(4, "01 12 23").turned(), 0);
        due("20: all", graph(4, "10 21 32").turned(), 3);
        due("20: the collision's stay", graph(4, "10 23 13").turned(), 1);
        ArrowClasses x = graph(3, "01 12");
        x.know(2, 1);
        due("20: with what is known", x.turned(), 2);
        x.forget();
        due("20: forgotten", x.turned(), 0);
        x.turn(0, 1);
        due("20: after a change", x.turned(), 1);
    }

    public static void main(String[] args) {
        newObject();
        arrow();
        erase();
        turn();
        drawn();
        parents();
        reached();
        around();
        collisions();
        covered();
        separated();
        separator();
        separations();
        edge();
        loose();
        know();
        forget();
        members();
        first();
        turned();
        System.out.println(wrong == 0 ? "all answers are as due" : wrong + " answers are not as due");
        if (wrong != 0) {
            System.exit(1);
        }
    }
}
