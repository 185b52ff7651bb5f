/**
 * Arrows between nodes without rings: which nodes are separated by which others, and what all graphs
 * with the same separations have in common.
 */
public final class ArrowClasses {
    public static final int NONE = -1;

    private static final int FEWEST_NODES = 2;
    private static final int MOST_NODES = 6;
    private static final int MOST_ARROWS = 9;

    private final int nodes;
    private final Kindred kindred;
    /** The one that kindred looks at. */
    private final Graph graph;
    /** NONE while nobody has asked since the drawn graph last changed. */
    private int separationCount;

    public ArrowClasses(int n) {
        nodes = n < FEWEST_NODES || n > MOST_NODES ? MOST_NODES : n;
        kindred = new Kindred(nodes);
        graph = kindred.drawn;
        separationCount = NONE;
    }

    public boolean arrow(int u, int v) {
        if (!isPair(u, v) || graph.joins(u, v) || graph.size() >= MOST_ARROWS) {
            return false;
        }
        if (holds(graph.reachOf(v), u)) {
            return false;
        }
        graph.put(u, v);
        noteChange();
        return true;
    }

    public boolean erase(int u, int v) {
        if (!isPair(u, v) || !graph.has(u, v)) {
            return false;
        }
        graph.take(u, v);
        noteChange();
        return true;
    }

    public boolean turn(int u, int v) {
        if (!isPair(u, v) || !graph.has(u, v)) {
            return false;
        }
        graph.take(u, v);
        // The arrow itself is away here, so what u still reaches it reaches by another way.
        if (holds(graph.reachOf(u), v)) {
            graph.put(u, v);
            return false;
        }
        graph.put(v, u);
        noteChange();
        return true;
    }

    public boolean drawn(int u, int v) {
        return isPair(u, v) && graph.has(u, v);
    }

    public int parents(int v) {
        return isNode(v) ? graph.parents[v] : NONE;
    }

    public int reached(int u) {
        return isNode(u) ? graph.reachOf(u) : NONE;
    }

    public int around(int u) {
        if (!isNode(u)) {
            return NONE;
        }
        int found = graph.parents[u] | graph.children[u];
        for (int child = 0; child < nodes; child++) {
            if (graph.has(u, child)) {
                found |= graph.parents[child];
            }
        }
        return found & ~(1 << u);
    }

    public int collisions() {
        int ends = 0;
        for (int c = 0; c < nodes; c++) {
            for (int a = 0; a < nodes; a++) {
                ends += Integer.bitCount(graph.strangers(a, c));
            }
        }
        // Each collision has been seen from both of its parents.
        return ends / 2;
    }

    public boolean covered(int u, int v) {
        return drawn(u, v) && graph.parents[v] == (graph.parents[u] | 1 << u);
    }

    public boolean separated(int x, int y, int set) {
        if (!isPair(x, y) || set < 0 || set >= 1 << nodes || holds(set, x) || holds(set, y)) {
            return false;
        }
        return !holds(graph.openFrom(x, set), y);
    }

    public int separator(int x, int y) {
        int best = NONE;
        int bestSize = nodes;
        for (int set = 0; set < 1 << nodes; set++) {
            int size = Integer.bitCount(set);
            if (size < bestSize && separated(x, y, set)) {
                best = set;
                bestSize = size;
            }
        }
        return best;
    }

    public int separations() {
        if (separationCount == NONE) {
            int count = 0;
            for (int set = 0; set < 1 << nodes; set++) {
                count += separationsBy(set);
            }
            separationCount = count;
        }
        return separationCount;
    }

    public int edge(int u, int v) {
        if (!isPair(u, v) || !graph.joins(u, v)) {
            return 0;
        }
        if (!kindred.someHas(v, u)) {
            return 1;
        }
        return kindred.someHas(u, v) ? 3 : 2;
    }

    public int loose() {
        return kindred.loosePairs();
    }

    public boolean know(int u, int v) {
        if (!isPair(u, v) || !kindred.someHas(u, v)) {
            return false;
        }
        kindred.fix(u, v);
        return true;
    }

    public int forget() {
        return kindred.unfix();
    }

    public int members() {
        return kindred.size();
    }

    public boolean first(int u, int v) {
        return isPair(u, v) && kindred.firstHas(u, v);
    }

    public int turned() {
        return kindred.turnedInFirst();
    }

    private boolean isNode(int v) {
        return v >= 0 && v < nodes;
    }

    private boolean isPair(int u, int v) {
        return isNode(u) && isNode(v) && u != v;
    }

    private void noteChange() {
        separationCount = NONE;
        kindred.restart();
    }

    private int separationsBy(int set) {
        int count = 0;
        for (int u = 0; u < nodes; u++) {
            if (!holds(set, u)) {
                // The nodes above u alone, so that no pair is counted from both ends.
                int above = (1 << nodes) - (2 << u);
                count += Integer.bitCount(above & ~set & ~graph.openFrom(u, set));
            }
        }
        return count;
    }

    private static boolean holds(int set, int v) {
        return (set >> v & 1) != 0;
    }

    /** A graph as sets of parents and of children; its callers hand in nodes alone. */
    private static final class Graph {
        final int nodes;
        final int[] parents;
        final int[] children;

        Graph(int nodes) {
            this.nodes = nodes;
            parents = new int[nodes];
            children = new int[nodes];
        }

        boolean has(int u, int v) {
            return holds(parents[v], u);
        }

        boolean joins(int u, int v) {
            return has(u, v) || has(v, u);
        }

        void put(int u, int v) {
            parents[v] |= 1 << u;
            children[u] |= 1 << v;
        }

        void take(int u, int v) {
            parents[v] &= ~(1 << u);
            children[u] &= ~(1 << v);
        }

        void empty() {
            for (int v = 0; v < nodes; v++) {
                parents[v] = 0;
                children[v] = 0;
            }
        }

        int size() {
            int arrows = 0;
            for (int v = 0; v < nodes; v++) {
                arrows += Integer.bitCount(parents[v]);
            }
            return arrows;
        }

        int reachOf(int u) {
            int found = 1 << u;
            // A shortest way has fewer arrows than there are nodes.
            for (int round = 1; round < nodes; round++) {
                for (int v = 0; v < nodes; v++) {
                    if (holds(found, v)) {
                        found |= children[v];
                    }
                }
            }
            return found;
        }

        boolean hasRing() {
            int left = (1 << nodes) - 1;
            // Without a ring each round takes away at least one node without parents among the rest.
            for (int round = 0; round < nodes && left != 0; round++) {
                for (int v = 0; v < nodes; v++) {
                    if ((parents[v] & left) == 0) {
                        left &= ~(1 << v);
                    }
                }
            }
            return left != 0;
        }

        /** The nodes with which a has a collision at c. */
        int strangers(int a, int c) {
            if (!holds(parents[c], a)) {
                return 0;
            }
            return parents[c] & ~(parents[a] | children[a] | 1 << a);
        }

        boolean collidesLike(Graph other) {
            for (int c = 0; c < nodes; c++) {
                for (int a = 0; a < nodes; a++) {
                    if (strangers(a, c) != other.strangers(a, c)) {
                        return false;
                    }
                }
            }
            return true;
        }

        /**
         * The nodes to which some path from x goes that the set does not block. Ways that come to a node
         * twice are followed too, which makes it enough to look at one node at a time: where a node meets
         * that reaches the set, a way goes down to the set and back. And to cut a round out of an open way
         * leaves it open: if the node meets only then, the round left it along an arrow and came back
         * against one, so a node that it reaches met on the round.
         */
        int openFrom(int x, int set) {
            int against = parents[x];
            int along = children[x];
            boolean grown = true;
            // Each round but the last adds a node to against or to along.
            for (int round = 0; round <= 2 * nodes && grown; round++) {
                int againstBefore = against;
                int alongBefore = along;
                for (int v = 0; v < nodes; v++) {
                    boolean inside = holds(set, v);
                    if (!inside && holds(against | along, v)) {
                        along |= children[v];
                    }
                    if (holds(inside ? along : against, v)) {
                        against |= parents[v];
                    }
                }
                grown = against != againstBefore || along != alongBefore;
            }
            return against | along;
        }
    }

    /**
     * The members of the drawn graph's class. A graph that joins the same nodes is held as a code with one
     * bit for each joined pair, 0 if the arrow goes from the lower node to the higher; the first
     * pair has the highest bit, so that the first member is the one with the least code.
     */
    private static final class Kindred {
        final Graph drawn;
        private final Graph tried;
        private final int[] lows;
        private final int[] highs;
        private int pairs;
        private int drawnCode;
        private int collidingBits;
        private int knownBits;
        private int knownCode;
        private boolean gathered;
        private int count;
        private int firstCode;
        private int someFalling;
        private int allFalling;

        Kindred(int nodes) {
            drawn = new Graph(nodes);
            tried = new Graph(nodes);
            lows = new int[MOST_ARROWS];
            highs = new int[MOST_ARROWS];
        }

        /** Must follow every change of the drawn graph. */
        void restart() {
            pairs = 0;
            drawnCode = 0;
            collidingBits = 0;
            knownBits = 0;
            knownCode = 0;
            gathered = false;
            for (int u = 0; u < drawn.nodes; u++) {
                for (int v = u + 1; v < drawn.nodes; v++) {
                    if (drawn.joins(u, v) && pairs < MOST_ARROWS) {
                        listPair(u, v);
                    }
                }
            }
        }

        private void listPair(int u, int v) {
            boolean colliding = (drawn.strangers(u, v) | drawn.strangers(v, u)) != 0;
            lows[pairs] = u;
            highs[pairs] = v;
            pairs++;
            drawnCode = 2 * drawnCode + (drawn.has(v, u) ? 1 : 0);
            collidingBits = 2 * collidingBits + (colliding ? 1 : 0);
        }

        int size() {
            gather();
            return count;
        }

        boolean someHas(int u, int v) {
            gather();
            int bit = bitOf(u, v);
            return (bit & (u < v ? ~allFalling : someFalling)) != 0;
        }

        boolean firstHas(int u, int v) {
            gather();
            int bit = bitOf(u, v);
            return (bit & (u < v ? ~firstCode : firstCode)) != 0;
        }

        int loosePairs() {
            gather();
            return Integer.bitCount(someFalling & ~allFalling);
        }

        int turnedInFirst() {
            gather();
            return Integer.bitCount(firstCode ^ drawnCode);
        }

        /** For an arrow that some member has. */
        void fix(int u, int v) {
            int bit = bitOf(u, v);
            knownBits |= bit;
            if (u > v) {
                knownCode |= bit;
            }
            gathered = false;
        }

        int unfix() {
            int known = Integer.bitCount(knownBits);
            knownBits = 0;
            knownCode = 0;
            gathered = false;
            return known;
        }

        /** The bit of a pair, 0 if the two are not joined. */
        private int bitOf(int u, int v) {
            for (int i = 0; i < pairs; i++) {
                if (lows[i] == Math.min(u, v) && highs[i] == Math.max(u, v)) {
                    return bitAt(i);
                }
            }
            return 0;
        }

        private int bitAt(int i) {
            return 1 << pairs - 1 - i;
        }

        private void gather() {
            if (gathered) {
                return;
            }
            count = 0;
            someFalling = 0;
            allFalling = ~0;
            for (int code = 0; code < 1 << pairs; code++) {
                if (isMember(code)) {
                    firstCode = count == 0 ? code : firstCode;
                    someFalling |= code;
                    allFalling &= code;
                    count++;
                }
            }
            gathered = true;
        }

        private boolean isMember(int code) {
            if ((code & knownBits) != knownCode) {
                return false;
            }
            // An arrow of a collision goes the same way in all members; to see this first saves most trials.
            if (((code ^ drawnCode) & collidingBits) != 0) {
                return false;
            }
            tried.empty();
            for (int i = 0; i < pairs; i++) {
                if ((code & bitAt(i)) == 0) {
                    tried.put(lows[i], highs[i]);
                } else {
                    tried.put(highs[i], lows[i]);
                }
            }
            return tried.collidesLike(drawn) && !tried.hasRing();
        }
    }
}
