import java.util.ArrayList;
import java.util.HashSet;
import java.util.List;
import java.util.Set;

/** Compares the program with a slow model that follows the document's terms word by word. */
public final class DefinitionTest {
    private static final int MOST_CALLS = 512;
    private static final int CALLS_PRINTED = 20;
    private static int wrong = 0;

    private static void due(String run, String call, int got, int want) {
        if (got != want) {
            wrong++;
            if (wrong <= CALLS_PRINTED) {
                System.out.println(run + ": " + call + " answered " + got + ", due is " + want);
            }
        }
    }

    private static int number(boolean answer) {
        return answer ? 1 : 0;
    }

    /** The document's terms, without any thrift. */
    private static final class Model {
        final int n;
        boolean[][] arrows;
        boolean[][] known;

        Model(int n) {
            this.n = n < 2 || n > 6 ? 6 : n;
            arrows = new boolean[this.n][this.n];
            known = new boolean[this.n][this.n];
        }

        boolean node(int v) {
            return 0 <= v && v < n;
        }

        boolean pair(int u, int v) {
            return node(u) && node(v) && u != v;
        }

        boolean joined(int u, int v) {
            return arrows[u][v] || arrows[v][u];
        }

        static boolean[][] copy(boolean[][] graph) {
            boolean[][] made = new boolean[graph.length][];
            for (int u = 0; u < graph.length; u++) {
                made[u] = graph[u].clone();
            }
            return made;
        }

        static boolean reaches(boolean[][] graph, int u, int v) {
            if (u == v) {
                return true;
            }
            for (int w = 0; w < graph.length; w++) {
                if (graph[u][w] && reaches(graph, w, v)) {
                    return true;
                }
            }
            return false;
        }

        /** Whether a row of arrows of at most n arrows comes back to where it began. */
        static boolean ring(boolean[][] graph) {
            for (int u = 0; u < graph.length; u++) {
                if (comesBack(graph, u, u, graph.length)) {
                    return true;
                }
            }
            return false;
        }

        static boolean comesBack(boolean[][] graph, int from, int to, int most) {
            for (int w = 0; most > 0 && w < graph.length; w++) {
                if (graph[from][w] && (w == to || comesBack(graph, w, to, most - 1))) {
                    return true;
                }
            }
            return false;
        }

        static int size(boolean[][] graph) {
            int count = 0;
            for (boolean[] row : graph) {
                for (boolean there : row) {
                    count += number(there);
                }
            }
            return count;
        }

        static Set<List<Integer>> collisionsOf(boolean[][] graph) {
            Set<List<Integer>> found = new HashSet<>();
            for (int a = 0; a < graph.length; a++) {
                for (int b = a + 1; b < graph.length; b++) {
                    for (int c = 0; c < graph.length; c++) {
                        if (graph[a][c] && graph[b][c] && !graph[a][b] && !graph[b][a]) {
                            found.add(List.of(a, c, b));
                        }
                    }
                }
            }
            return found;
        }

        boolean change(boolean[][] next) {
            if (ring(next) || size(next) > 9) {
                return false;
            }
            arrows = next;
            known = new boolean[n][n];
            return true;
        }

        boolean arrow(int u, int v) {
            if (!pair(u, v) || joined(u, v)) {
                return false;
            }
            boolean[][] next = copy(arrows);
            next[u][v] = true;
            return change(next);
        }

        boolean erase(int u, int v) {
            if (!drawn(u, v)) {
                return false;
            }
            boolean[][] next = copy(arrows);
            next[u][v] = false;
            return change(next);
        }

        boolean turn(int u, int v) {
            if (!drawn(u, v)) {
                return false;
            }
            boolean[][] next = copy(arrows);
            next[u][v] = false;
            next[v][u] = true;
            return change(next);
        }

        boolean drawn(int u, int v) {
            return pair(u, v) && arrows[u][v];
        }

        int parents(int v) {
            int sum = 0;
            for (int u = 0; node(v) && u < n; u++) {
                sum += arrows[u][v] ? 1 << u : 0;
            }
            return node(v) ? sum : -1;
        }

        int reached(int u) {
            int sum = 0;
            for (int v = 0; node(u) && v < n; v++) {
                sum += reaches(arrows, u, v) ? 1 << v : 0;
            }
            return node(u) ? sum : -1;
        }

        int around(int u) {
            if (!node(u)) {
                return -1;
            }
            int sum = 0;
            for (int v = 0; v < n; v++) {
                boolean near = joined(u, v);
                for (int child = 0; child < n; child++) {
                    near |= arrows[u][child] && arrows[v][child];
                }
                sum += near && v != u ? 1 << v : 0;
            }
            return sum;
        }

        int collisions() {
            return collisionsOf(arrows).size();
        }

        boolean covered(int u, int v) {
            if (!drawn(u, v)) {
                return false;
            }
            for (int w = 0; w < n; w++) {
                if (arrows[w][v] != (arrows[w][u] || w == u)) {
                    return false;
                }
            }
            return true;
        }

        boolean separated(int x, int y, int set) {
            if (!pair(x, y) || set < 0 || set > (1 << n) - 1 || (set >> x & 1) == 1 || (set >> y & 1) == 1) {
                return false;
            }
            List<Integer> path = new ArrayList<>();
            path.add(x);
            return everyPathBlocked(path, y, set);
        }

        boolean everyPathBlocked(List<Integer> path, int y, int set) {
            int last = path.get(path.size() - 1);
            if (last == y) {
                return blocked(path, set);
            }
            for (int w = 0; w < n; w++) {
                if (joined(last, w) && !path.contains(w)) {
                    path.add(w);
                    boolean all = everyPathBlocked(path, y, set);
                    path.remove(path.size() - 1);
                    if (!all) {
                        return false;
                    }
                }
            }
            return true;
        }

        boolean blocked(List<Integer> path, int set) {
            for (int i = 1; i + 1 < path.size(); i++) {
                int v = path.get(i);
                boolean meets = arrows[path.get(i - 1)][v] && arrows[path.get(i + 1)][v];
                if (meets ? (reached(v) & set) == 0 : (set >> v & 1) == 1) {
                    return true;
                }
            }
            return false;
        }

        int separator(int x, int y) {
            for (int size = 0; size <= n; size++) {
                for (int set = 0; set < 1 << n; set++) {
                    if (Integer.bitCount(set) == size && separated(x, y, set)) {
                        return set;
                    }
                }
            }
            return -1;
        }

        int separations() {
            int count = 0;
            for (int u = 0; u < n; u++) {
                for (int v = u + 1; v < n; v++) {
                    for (int set = 0; set < 1 << n; set++) {
                        count += number(separated(u, v, set));
                    }
                }
            }
            return count;
        }

        List<boolean[][]> all() {
            List<boolean[][]> found = new ArrayList<>();
            turnAll(copy(arrows), 0, found);
            return found;
        }

        /** Both ways for every joined pair from the given place on. */
        void turnAll(boolean[][] graph, int place, List<boolean[][]> found) {
            if (place == n * n) {
                if (member(graph)) {
                    found.add(copy(graph));
                }
                return;
            }
            int u = place / n;
            int v = place % n;
            turnAll(graph, place + 1, found);
            if (u < v && joined(u, v)) {
                swap(graph, u, v);
                turnAll(graph, place + 1, found);
                swap(graph, u, v);
            }
        }

        static void swap(boolean[][] graph, int u, int v) {
            boolean kept = graph[u][v];
            graph[u][v] = graph[v][u];
            graph[v][u] = kept;
        }

        boolean member(boolean[][] graph) {
            for (int u = 0; u < n; u++) {
                for (int v = 0; v < n; v++) {
                    if (known[u][v] && !graph[u][v]) {
                        return false;
                    }
                }
            }
            return !ring(graph) && collisionsOf(graph).equals(collisionsOf(arrows));
        }

        static int have(List<boolean[][]> graphs, int u, int v) {
            int count = 0;
            for (boolean[][] graph : graphs) {
                count += number(graph[u][v]);
            }
            return count;
        }

        int edge(List<boolean[][]> all, int u, int v) {
            if (!pair(u, v) || !joined(u, v)) {
                return 0;
            }
            return have(all, u, v) == all.size() ? 1 : have(all, v, u) == all.size() ? 2 : 3;
        }

        int loose(List<boolean[][]> all) {
            int count = 0;
            for (int u = 0; u < n; u++) {
                for (int v = u + 1; v < n; v++) {
                    count += number(have(all, u, v) > 0 && have(all, v, u) > 0);
                }
            }
            return count;
        }

        boolean know(List<boolean[][]> all, int u, int v) {
            if (!pair(u, v) || have(all, u, v) == 0) {
                return false;
            }
            known[u][v] = true;
            return true;
        }

        int forget() {
            int count = size(known);
            known = new boolean[n][n];
            return count;
        }

        static boolean before(boolean[][] one, boolean[][] other) {
            for (int u = 0; u < one.length; u++) {
                for (int v = u + 1; v < one.length; v++) {
                    if (one[u][v] != other[u][v]) {
                        return one[u][v];
                    }
                }
            }
            return false;
        }

        static boolean[][] firstOf(List<boolean[][]> all) {
            for (boolean[][] one : all) {
                boolean least = true;
                for (boolean[][] other : all) {
                    least &= one == other || before(one, other);
                }
                if (least) {
                    return one;
                }
            }
            throw new IllegalStateException("no first member");
        }

        int turned(List<boolean[][]> all) {
            boolean[][] first = firstOf(all);
            int count = 0;
            for (int u = 0; u < n; u++) {
                for (int v = 0; v < n; v++) {
                    count += number(arrows[u][v] && first[v][u]);
                }
            }
            return count;
        }
    }

    /** One of the program's objects beside a model that gets the same calls. */
    private static final class Twin {
        final Model model;
        final String run;
        ArrowClasses x;
        int calls;

        Twin(int n, String run) {
            model = new Model(n);
            this.run = run;
            x = new ArrowClasses(n);
        }

        boolean spent() {
            return calls >= MOST_CALLS;
        }

        void tell(String call, int got, int want) {
            calls++;
            due(run, "call " + calls + " " + call, got, want);
        }

        void ask(int which, int u, int v, int set) {
            String pair = "(" + u + ", " + v + ")";
            switch (which) {
                case 0 -> tell("arrow" + pair, number(x.arrow(u, v)), number(model.arrow(u, v)));
                case 1 -> tell("erase" + pair, number(x.erase(u, v)), number(model.erase(u, v)));
                case 2 -> tell("turn" + pair, number(x.turn(u, v)), number(model.turn(u, v)));
                case 3 -> tell("drawn" + pair, number(x.drawn(u, v)), number(model.drawn(u, v)));
                case 4 -> tell("parents(" + v + ")", x.parents(v), model.parents(v));
                case 5 -> tell("reached(" + u + ")", x.reached(u), model.reached(u));
                case 6 -> tell("around(" + u + ")", x.around(u), model.around(u));
                case 7 -> tell("collisions()", x.collisions(), model.collisions());
                case 8 -> tell("covered" + pair, number(x.covered(u, v)), number(model.covered(u, v)));
                case 9 -> tell("separated" + pair + " by " + set, number(x.separated(u, v, set)),
                        number(model.separated(u, v, set)));
                case 10 -> tell("separator" + pair, x.separator(u, v), model.separator(u, v));
                case 11 -> tell("separations()", x.separations(), model.separations());
                default -> askClass(which, u, v);
            }
        }

        void askClass(int which, int u, int v) {
            String pair = "(" + u + ", " + v + ")";
            List<boolean[][]> all = model.all();
            switch (which) {
                case 12 -> tell("edge" + pair, x.edge(u, v), model.edge(all, u, v));
                case 13 -> tell("loose()", x.loose(), model.loose(all));
                case 14 -> tell("know" + pair, number(x.know(u, v)), number(model.know(all, u, v)));
                case 15 -> tell("forget()", x.forget(), model.forget());
                case 16 -> tell("members()", x.members(), all.size());
                case 17 -> tell("first" + pair, number(x.first(u, v)),
                        number(model.pair(u, v) && Model.firstOf(all)[u][v]));
                default -> tell("turned()", x.turned(), model.turned(all));
            }
        }
    }

    /** Every call that changes nothing, on the graph with the given number (three ways for each pair). */
    private static boolean wholeGraph(int n, int number) {
        Twin twin = new Twin(n, "graph " + number + " of " + n + " nodes");
        int rest = number;
        for (int u = 0; u < n; u++) {
            for (int v = u + 1; v < n; v++) {
                if (rest % 3 != 0 && !drawBoth(twin, rest % 3 == 1 ? u : v, rest % 3 == 1 ? v : u)) {
                    return false;
                }
                rest /= 3;
            }
        }
        for (int which : new int[] {7, 11, 13, 16, 18}) {
            twin.ask(which, 0, 0, 0);
        }
        for (int u = 0; u < n; u++) {
            for (int which : new int[] {4, 5, 6}) {
                twin.ask(which, u, u, 0);
            }
            for (int v = 0; v < n; v++) {
                for (int which : new int[] {3, 8, 10, 12, 17}) {
                    twin.ask(which, u, v, 0);
                }
                // From one end alone: both would be more calls than an object has.
                if (number % 2 == 0 ? u < v : u > v) {
                    askSets(twin, u, v);
                }
            }
        }
        if (twin.calls > MOST_CALLS) {
            throw new IllegalStateException("too many calls of one object");
        }
        return true;
    }

    private static void askSets(Twin twin, int x, int y) {
        for (int set = 0; set < 1 << twin.model.n; set++) {
            if ((set >> x & 1) == 0 && (set >> y & 1) == 0) {
                twin.ask(9, x, y, set);
            }
        }
    }

    private static boolean drawBoth(Twin twin, int u, int v) {
        boolean can = twin.model.arrow(u, v);
        twin.tell("arrow(" + u + ", " + v + ")", number(twin.x.arrow(u, v)), number(can));
        return can;
    }

    private static void allGraphs(int n, int pairs, int step) {
        int numbers = 1;
        for (int i = 0; i < pairs; i++) {
            numbers *= 3;
        }
        int graphs = 0;
        for (int number = 0; number < numbers; number += step) {
            graphs += number(wholeGraph(n, number));
        }
        System.out.println(graphs + " graphs of " + n + " nodes compared");
    }

    /** The same numbers in each run of the test. */
    private static final class Numbers {
        private long state;

        Numbers(long seed) {
            state = seed * 0x9E3779B97F4A7C15L + 1;
        }

        int below(int bound) {
            state = state * 6364136223846793005L + 1442695040888963407L;
            return (int) ((state >>> 33) % bound);
        }

        int node(int n) {
            int[] odd = {-1, n, n + 1, 32, 33, Integer.MIN_VALUE, Integer.MAX_VALUE};
            return below(24) == 0 ? odd[below(odd.length)] : below(n);
        }

        int set(int n) {
            int[] odd = {-1, 1 << n, (1 << n) - 1, 1 << n | 1, Integer.MIN_VALUE, Integer.MAX_VALUE};
            return below(16) == 0 ? odd[below(odd.length)] : below(1 << n);
        }
    }

    /** Calls of all kinds with all kinds of arguments, until the object's calls are spent. */
    private static void longRun(int seed) {
        Numbers numbers = new Numbers(seed);
        int n = numbers.below(6) == 0 ? numbers.below(12) - 2 : 3 + numbers.below(4);
        Twin twin = new Twin(n, "run " + seed + " with n " + n);
        // Few or many changes: known arrows live only between them.
        int changes = 1 + numbers.below(4);
        while (!twin.spent()) {
            int which = numbers.below(4) < changes && numbers.below(3) == 0 ? numbers.below(3) : numbers.below(19);
            if (which == 1 && numbers.below(2) == 0) {
                which = 0;
            }
            int u = numbers.node(twin.model.n);
            int v = numbers.node(twin.model.n);
            int set = numbers.set(twin.model.n);
            if (which == 9 && numbers.below(4) != 0 && twin.model.pair(u, v)) {
                set &= ~(1 << u | 1 << v);
            }
            twin.ask(which, u, v, set);
        }
    }

    /** One graph, then many arrows that are known and forgotten, which a change would clear. */
    private static void knowingRun(int seed) {
        Numbers numbers = new Numbers(seed + 1000003);
        int n = 3 + numbers.below(4);
        Twin twin = new Twin(n, "knowing run " + seed + " with n " + n);
        for (int i = 0; i < 24; i++) {
            twin.ask(0, numbers.below(n), numbers.below(n), 0);
        }
        while (!twin.spent()) {
            int which = numbers.below(40) == 0 ? numbers.below(3) : 12 + numbers.below(7);
            if (which == 15 && numbers.below(4) != 0) {
                which = 14;
            }
            twin.ask(which, numbers.below(n), numbers.below(n), 0);
        }
    }

    public static void main(String[] args) {
        allGraphs(2, 1, 1);
        allGraphs(3, 3, 1);
        allGraphs(4, 6, 1);
        allGraphs(5, 10, 7);
        allGraphs(6, 15, 4999);
        for (int seed = 0; seed < 200; seed++) {
            longRun(seed);
            knowingRun(seed);
        }
        System.out.println(wrong == 0 ? "all answers are as due" : wrong + " answers are not as due");
        if (wrong != 0) {
            System.exit(1);
        }
    }
}
