import java.util.Arrays;

/**
 * Spaces glued of at most three four-cornered pieces, and the flat sheets in them.
 *
 * A side is held as one number, 4 * piece + side; so are a corner (4 * piece + corner), an edge
 * (6 * piece + edge) and a number of a sheet (7 * piece + kind, THREES first).
 */
public final class ThirdSheets {
    public static final int NONE = -1, BAD = -2, NOT = -3, FULL = -4;

    /** What the calls answer whose right answers may be any small number below 0. */
    private static final int REFUSED = -2147483648;

    private static final int MOST_PIECES = 3;
    private static final int MOST_NUMBER = 1000;
    private static final int MOST_TIMES = 100;
    private static final int MOST_CUTS = 400;
    private static final int KINDS = 7;
    private static final int SIDES = 4;
    private static final int EDGES = 6;

    private static final int[] EDGE_LOW = {0, 0, 0, 1, 1, 2};
    private static final int[] EDGE_HIGH = {1, 2, 3, 2, 3, 3};

    /** The edge with the ends a and b, at 4 * a + b (0 where a is b, so that it is an index still). */
    private static final int[] EDGE_OF = {0, 0, 1, 2, 0, 0, 3, 4, 1, 3, 0, 5, 2, 4, 5, 0};

    /** Which FOURS have a and b at one of their edges, at 4 * a + b (0 where a is b). */
    private static final int[] FOURS_OF = {0, 0, 1, 2, 0, 0, 2, 1, 1, 2, 0, 0, 2, 1, 0, 0};

    private final Space space;
    private final Loops loops;
    private final LeastSheets leastSheets;
    private final Sheet sheet;
    private final Parts sheetParts;
    private boolean leastStale;
    private boolean partsStale;

    public ThirdSheets() {
        space = new Space();
        loops = new Loops();
        leastSheets = new LeastSheets();
        sheet = new Sheet();
        sheetParts = new Parts();
        leastStale = true;
        partsStale = true;
    }

    public int piece() {
        if (space.pieces >= MOST_PIECES) {
            return FULL;
        }
        space.grow();
        sheet.wipe();
        spaceChanged();
        return space.pieces - 1;
    }

    public int glue(int p, int f, int q, int g, int map) {
        if (!hasSide(p, f) || !hasSide(q, g) || (p == q && f == g) || !goesOnto(map, g)) {
            return BAD;
        }
        int from = SIDES * p + f;
        int to = SIDES * q + g;
        if (space.isGlued(from) || space.isGlued(to)) {
            return NOT;
        }
        space.fasten(from, to, map);
        spaceChanged();
        return 1;
    }

    public int open(int p, int f) {
        if (!hasSide(p, f)) {
            return BAD;
        }
        int side = SIDES * p + f;
        if (!space.isGlued(side)) {
            return NOT;
        }
        space.loosen(side);
        spaceChanged();
        return 1;
    }

    public int clear() {
        int gone = space.pieces;
        space.empty();
        sheet.wipe();
        spaceChanged();
        return gone;
    }

    public int across(int p, int f, int what) {
        if (!hasSide(p, f) || what < 0 || what > 1) {
            return BAD;
        }
        int side = SIDES * p + f;
        if (!space.isGlued(side)) {
            return NONE;
        }
        int mate = space.mate[side];
        return what == 0 ? mate / SIDES : mate % SIDES;
    }

    public int classOf(int way, int p, int c) {
        if (way < 0 || way > 1 || !hasPiece(p) || c < 0) {
            return BAD;
        }
        if (way == 0) {
            return c < SIDES ? space.corners.groupOf[SIDES * p + c] : BAD;
        }
        return c < EDGES ? space.edges.groupOf[EDGES * p + c] : BAD;
    }

    public int bent(int k) {
        if (k < 0 || k >= space.edges.groups) {
            return BAD;
        }
        return space.edges.clashes(k) ? 1 : 0;
    }

    public int link(int k) {
        if (k < 0 || k >= space.corners.groups) {
            return REFUSED;
        }
        return space.linkOf(k);
    }

    public int count(int what) {
        switch (what) {
            case 0: return space.pieces;
            case 1: return space.corners.groups;
            case 2: return space.edges.groups;
            case 3: return space.sideCount();
            case 4: return space.openCount();
            case 5: return space.eulerNumber();
            case 6: return space.isWhole() ? 1 : 0;
            case 7: return space.isEven() ? 1 : 0;
            case 8: return space.sets.groups;
            default: return REFUSED;
        }
    }

    public int holes(int i) {
        if (i < 0) {
            return BAD;
        }
        if (space.edges.anyClashes()) {
            return NOT;
        }
        loops.build(space);
        if (i == 0) {
            return space.pairs - space.pieces + space.sets.groups - loops.rank;
        }
        return loops.aboveOne(i);
    }

    public int least() {
        freshenLeast();
        return leastSheets.rows;
    }

    public int number(int k, int i) {
        freshenLeast();
        if (!hasLeast(k) || !hasNumber(i)) {
            return BAD;
        }
        return leastSheets.row[k][i];
    }

    public int put(int i, int v) {
        if (!hasNumber(i) || v < 0 || v > MOST_NUMBER) {
            return BAD;
        }
        int was = sheet.row[i];
        sheet.row[i] = v;
        partsStale = true;
        return was;
    }

    public int add(int k, int n) {
        freshenLeast();
        if (!hasLeast(k) || n < 0 || n > MOST_TIMES) {
            return BAD;
        }
        if (!sheet.hasRoomFor(leastSheets.row[k], n)) {
            return FULL;
        }
        sheet.raise(leastSheets.row[k], n);
        partsStale = true;
        return 1;
    }

    public int drop() {
        int gone = sheet.notZero();
        sheet.wipe();
        partsStale = true;
        return gone;
    }

    public int legal() {
        if (!sheet.fits(space)) {
            return 1;
        }
        return sheet.mixesFours() ? 2 : 0;
    }

    public int euler() {
        return sheet.isLegal(space) ? sheet.eulerNumber(space) : REFUSED;
    }

    public int parts() {
        if (!sheet.isLegal(space)) {
            return NOT;
        }
        if (sheet.cutCount() > MOST_CUTS) {
            return FULL;
        }
        freshenParts();
        return sheetParts.cuts.groups;
    }

    public int part(int k, int what) {
        if (k < 0 || what < 0 || what > 2) {
            return REFUSED;
        }
        if (!sheet.isLegal(space) || sheet.cutCount() > MOST_CUTS) {
            return REFUSED;
        }
        freshenParts();
        if (k >= sheetParts.cuts.groups) {
            return REFUSED;
        }
        switch (what) {
            case 0: return sheetParts.sizeOf[k];
            case 1: return sheetParts.eulerOf[k];
            default: return sheetParts.cuts.clashes(k) ? 0 : 1;
        }
    }

    private boolean hasPiece(int p) {
        return p >= 0 && p < space.pieces;
    }

    private boolean hasSide(int p, int f) {
        return hasPiece(p) && f >= 0 && f < SIDES;
    }

    private boolean hasNumber(int i) {
        return i >= 0 && i < KINDS * space.pieces;
    }

    private boolean hasLeast(int k) {
        return k >= 0 && k < leastSheets.rows;
    }

    /** Whether a map names each corner of side g once: no corner twice, and not g. */
    private static boolean goesOnto(int map, int g) {
        if (map < 0 || map > 63) {
            return false;
        }
        int seen = (1 << (map & 3)) | (1 << ((map >> 2) & 3)) | (1 << ((map >> 4) & 3)) | (1 << g);
        return seen == 15;
    }

    private void spaceChanged() {
        space.sortOut();
        leastStale = true;
        partsStale = true;
    }

    private void freshenLeast() {
        if (leastStale) {
            leastSheets.build(space);
            leastStale = false;
        }
    }

    /** Only for a legal sheet of at most MOST_CUTS cuts. */
    private void freshenParts() {
        if (partsStale) {
            sheetParts.build(space, sheet.row);
            partsStale = false;
        }
    }

    /** How many arcs of a sheet's row go around a corner of a side. */
    private static int arcsAround(int[] row, int side, int corner) {
        int first = KINDS * (side / SIDES);
        return row[first + corner] + row[first + 4 + FOURS_OF[4 * corner + side % SIDES]];
    }

    /** Whether each cut of a kind has a point on an edge: it parts the edge's ends. */
    private static boolean meets(int kind, int edge) {
        if (kind < 4) {
            return kind == EDGE_LOW[edge] || kind == EDGE_HIGH[edge];
        }
        return kind - 4 != FOURS_OF[4 * EDGE_LOW[edge] + EDGE_HIGH[edge]];
    }

    /**
     * Members joined to groups, each of them told alike or unlike its group's least member. A group
     * clashes if the joins tell some member both alike and unlike another.
     */
    private static final class Groups {
        private final int[] parent;
        private final int[] unlikeParent;
        private final boolean[] clash;
        final int[] groupOf;
        final int[] first;
        private int members;
        int groups;

        Groups(int most) {
            parent = new int[most];
            unlikeParent = new int[most];
            clash = new boolean[most];
            groupOf = new int[most];
            first = new int[most];
        }

        void start(int count) {
            members = Math.min(count, parent.length);
            for (int i = 0; i < members; i++) {
                parent[i] = i;
                unlikeParent[i] = 0;
                clash[i] = false;
            }
        }

        /** The least member of x's group; x then hangs from it, so that unlikeParent tells x against it. */
        private int rootOf(int x) {
            int root = x;
            int unlike = 0;
            for (int i = 0; i < members && parent[root] != root; i++) {
                unlike ^= unlikeParent[root];
                root = parent[root];
            }
            parent[x] = root;
            unlikeParent[x] = unlike;
            return root;
        }

        void join(int x, int y, boolean unlike) {
            int rootX = rootOf(x);
            int rootY = rootOf(y);
            int turn = unlikeParent[x] ^ unlikeParent[y] ^ (unlike ? 1 : 0);
            if (rootX == rootY) {
                if (turn == 1) {
                    clash[rootX] = true;
                }
                return;
            }
            int low = Math.min(rootX, rootY);
            int high = Math.max(rootX, rootY);
            parent[high] = low;
            unlikeParent[high] = turn;
            if (clash[high]) {
                clash[low] = true;
            }
        }

        /** Numbers the groups by their least members; after the last join. */
        void settle() {
            groups = 0;
            for (int i = 0; i < members; i++) {
                int root = rootOf(i);
                if (root == i) {
                    first[groups] = i;
                    groupOf[i] = groups;
                    groups++;
                } else {
                    groupOf[i] = groupOf[root];
                }
            }
        }

        boolean clashes(int group) {
            return clash[first[group]];
        }

        boolean anyClashes() {
            for (int k = 0; k < groups; k++) {
                if (clashes(k)) {
                    return true;
                }
            }
            return false;
        }
    }

    /** The pieces, what their sides are glued to, and the classes that come of it. */
    private static final class Space {
        int pieces;
        int pairs;
        /** The side to which a side is glued, or NONE. */
        final int[] mate;
        /** At 4 * side + c: the corner to which corner c goes; for the side's own number, its mate's. */
        final int[] goesTo;
        final Groups corners;
        /** An edge that is glued with its ends changed is told unlike: the groups that clash are bent. */
        final Groups edges;
        /** Told as EVEN asks: the space is even if no group clashes. */
        final Groups sets;

        Space() {
            mate = new int[SIDES * MOST_PIECES];
            goesTo = new int[4 * SIDES * MOST_PIECES];
            corners = new Groups(SIDES * MOST_PIECES);
            edges = new Groups(EDGES * MOST_PIECES);
            sets = new Groups(MOST_PIECES);
            Arrays.fill(mate, NONE);
        }

        void grow() {
            if (pieces < MOST_PIECES) {
                pieces++;
            }
        }

        void empty() {
            pieces = 0;
            pairs = 0;
            Arrays.fill(mate, NONE);
        }

        boolean isGlued(int side) {
            return mate[side] != NONE;
        }

        void fasten(int from, int to, int map) {
            mate[from] = to;
            mate[to] = from;
            pairs++;
            tell(from, from % SIDES, to, to % SIDES);
            int rest = map;
            for (int c = 0; c < 4; c++) {
                if (c != from % SIDES) {
                    tell(from, c, to, rest & 3);
                    rest >>= 2;
                }
            }
        }

        private void tell(int from, int c, int to, int d) {
            goesTo[4 * from + c] = d;
            goesTo[4 * to + d] = c;
        }

        void loosen(int side) {
            int other = mate[side];
            if (other != NONE) {
                mate[side] = NONE;
                mate[other] = NONE;
                pairs--;
            }
        }

        /** Whether a side is the one at which what it shares with its mate is counted. */
        boolean isLesser(int side) {
            return mate[side] > side;
        }

        void sortOut() {
            corners.start(SIDES * pieces);
            edges.start(EDGES * pieces);
            sets.start(pieces);
            for (int side = 0; side < SIDES * pieces; side++) {
                if (isLesser(side)) {
                    joinCorners(side);
                    joinEdges(side);
                    sets.join(side / SIDES, mate[side] / SIDES, isEvenChange(side));
                }
            }
            corners.settle();
            edges.settle();
            sets.settle();
        }

        private void joinCorners(int side) {
            int here = SIDES * (side / SIDES);
            int there = SIDES * (mate[side] / SIDES);
            for (int c = 0; c < 4; c++) {
                if (c != side % SIDES) {
                    corners.join(here + c, there + goesTo[4 * side + c], false);
                }
            }
        }

        private void joinEdges(int side) {
            int here = EDGES * (side / SIDES);
            int there = EDGES * (mate[side] / SIDES);
            for (int e = 0; e < EDGES; e++) {
                if (EDGE_LOW[e] != side % SIDES && EDGE_HIGH[e] != side % SIDES) {
                    int a = goesTo[4 * side + EDGE_LOW[e]];
                    int b = goesTo[4 * side + EDGE_HIGH[e]];
                    edges.join(here + e, there + EDGE_OF[4 * a + b], a > b);
                }
            }
        }

        private boolean isEvenChange(int side) {
            int turned = 0;
            for (int e = 0; e < EDGES; e++) {
                if (goesTo[4 * side + EDGE_LOW[e]] > goesTo[4 * side + EDGE_HIGH[e]]) {
                    turned++;
                }
            }
            return turned % 2 == 0;
        }

        int sideCount() {
            return SIDES * pieces - pairs;
        }

        int openCount() {
            return SIDES * pieces - 2 * pairs;
        }

        int eulerNumber() {
            return corners.groups - edges.groups + sideCount() - pieces;
        }

        boolean isEven() {
            return !sets.anyClashes();
        }

        boolean isWhole() {
            if (pieces == 0 || openCount() != 0 || edges.anyClashes()) {
                return false;
            }
            for (int k = 0; k < corners.groups; k++) {
                if (linkOf(k) != 2) {
                    return false;
                }
            }
            return true;
        }

        int linkOf(int k) {
            return endsAt(k) - sidesAt(k) + cornersOf(k);
        }

        /** The two ends of a bent edge class are one. */
        private int endsAt(int k) {
            int ends = 0;
            for (int e = 0; e < edges.groups; e++) {
                int edge = edges.first[e];
                int here = SIDES * (edge / EDGES);
                if (corners.groupOf[here + EDGE_LOW[edge % EDGES]] == k) {
                    ends++;
                }
                if (!edges.clashes(e) && corners.groupOf[here + EDGE_HIGH[edge % EDGES]] == k) {
                    ends++;
                }
            }
            return ends;
        }

        private int sidesAt(int k) {
            int there = 0;
            for (int side = 0; side < SIDES * pieces; side++) {
                boolean counts = !isGlued(side) || isLesser(side);
                for (int c = 0; c < 4 && counts; c++) {
                    if (c != side % SIDES && corners.groupOf[SIDES * (side / SIDES) + c] == k) {
                        there++;
                    }
                }
            }
            return there;
        }

        private int cornersOf(int k) {
            int those = 0;
            for (int c = 0; c < SIDES * pieces; c++) {
                if (corners.groupOf[c] == k) {
                    those++;
                }
            }
            return those;
        }
    }

    /** The loops around the edge classes, and their diagonal form. */
    private static final class Loops {
        private static final int MOST_PAIRS = SIDES * MOST_PIECES / 2;
        private static final int MOST_LOOPS = EDGES * MOST_PIECES;
        /** Far above what the small numbers here can need. */
        private static final int MOST_STEPS = 100000;

        private final long[][] loop;
        private final int[] pairOf;
        private int loops;
        private int columns;
        /** How many numbers the diagonal form has; they stand in loop[d][d]. */
        int rank;

        Loops() {
            loop = new long[MOST_LOOPS][MOST_PAIRS];
            pairOf = new int[SIDES * MOST_PIECES];
        }

        void build(Space space) {
            numberPairs(space);
            loops = 0;
            for (int k = 0; k < space.edges.groups; k++) {
                if (goAround(space, space.edges.first[k])) {
                    loops++;
                }
            }
            rank = 0;
            int most = Math.min(loops, columns);
            while (rank < most && makeDiagonal(rank)) {
                rank++;
            }
        }

        /** The i-th number above 1 of the diagonal form, i from 1. */
        int aboveOne(int i) {
            int seen = 0;
            for (int d = 0; d < rank; d++) {
                if (loop[d][d] > 1) {
                    seen++;
                    if (seen == i) {
                        return (int) loop[d][d];
                    }
                }
            }
            return NONE;
        }

        private void numberPairs(Space space) {
            columns = 0;
            for (int side = 0; side < SIDES * space.pieces; side++) {
                if (space.isLesser(side)) {
                    pairOf[side] = columns;
                    pairOf[space.mate[side]] = columns;
                    columns++;
                }
            }
        }

        /** Writes the loop around an edge as the next row; false if an open side is in the way. */
        private boolean goAround(Space space, int edge) {
            long[] row = loop[loops];
            Arrays.fill(row, 0);
            int start = SIDES * (edge / EDGES) + EDGE_LOW[5 - edge % EDGES];
            int side = start;
            int a = EDGE_LOW[edge % EDGES];
            int b = EDGE_HIGH[edge % EDGES];
            for (int i = 0; i < MOST_LOOPS; i++) {
                if (!space.isGlued(side)) {
                    return false;
                }
                row[pairOf[side]] += space.isLesser(side) ? 1 : -1;
                int toA = space.goesTo[4 * side + a];
                int toB = space.goesTo[4 * side + b];
                int entered = space.mate[side];
                a = toA;
                b = toB;
                // Of the two sides at the edge ab, the one that was not come in by.
                side = entered - entered % SIDES + 6 - a - b - entered % SIDES;
                int here = EDGES * (side / SIDES) + EDGE_OF[4 * a + b];
                if (side == start && here == edge) {
                    break;
                }
            }
            return true;
        }

        /** Makes loop[d][d] the only number of its row and column, a divisor of all behind it; false if none is left. */
        private boolean makeDiagonal(int d) {
            for (int step = 0; step < MOST_STEPS; step++) {
                if (!bringSmallest(d)) {
                    return false;
                }
                if (reduceRows(d) && reduceColumns(d) && dividesRest(d)) {
                    break;
                }
            }
            return true;
        }

        /** Brings the number nearest to 0, but not 0, to loop[d][d], and makes it positive. */
        private boolean bringSmallest(int d) {
            int bestRow = NONE;
            int bestColumn = NONE;
            long best = 0;
            for (int r = d; r < loops; r++) {
                for (int c = d; c < columns; c++) {
                    long size = Math.abs(loop[r][c]);
                    if (size != 0 && (best == 0 || size < best)) {
                        best = size;
                        bestRow = r;
                        bestColumn = c;
                    }
                }
            }
            if (best == 0) {
                return false;
            }
            swapRows(d, bestRow);
            swapColumns(d, bestColumn);
            if (loop[d][d] < 0) {
                for (int c = d; c < columns; c++) {
                    loop[d][c] = -loop[d][c];
                }
            }
            return true;
        }

        private void swapRows(int r, int s) {
            long[] kept = loop[r];
            loop[r] = loop[s];
            loop[s] = kept;
        }

        private void swapColumns(int c, int e) {
            for (int r = 0; r < loops; r++) {
                long kept = loop[r][c];
                loop[r][c] = loop[r][e];
                loop[r][e] = kept;
            }
        }

        /** Takes row d from the rows behind it as often as it goes; whether nothing is left in column d. */
        private boolean reduceRows(int d) {
            boolean clean = true;
            for (int r = d + 1; r < loops; r++) {
                long times = timesOf(loop[r][d], loop[d][d]);
                for (int c = d; c < columns; c++) {
                    loop[r][c] -= times * loop[d][c];
                }
                if (loop[r][d] != 0) {
                    clean = false;
                }
            }
            return clean;
        }

        private boolean reduceColumns(int d) {
            boolean clean = true;
            for (int c = d + 1; c < columns; c++) {
                long times = timesOf(loop[d][c], loop[d][d]);
                for (int r = d; r < loops; r++) {
                    loop[r][c] -= times * loop[r][d];
                }
                if (loop[d][c] != 0) {
                    clean = false;
                }
            }
            return clean;
        }

        private static long timesOf(long number, long divisor) {
            return divisor == 0 ? 0 : number / divisor;
        }

        /** If a row behind has a number that loop[d][d] does not divide, that row comes to row d for a next step. */
        private boolean dividesRest(int d) {
            long divisor = loop[d][d];
            for (int r = d + 1; r < loops; r++) {
                for (int c = d + 1; c < columns; c++) {
                    if (loop[r][c] != timesOf(loop[r][c], divisor) * divisor) {
                        addRow(d, r);
                        return false;
                    }
                }
            }
            return true;
        }

        private void addRow(int to, int from) {
            for (int c = 0; c < columns; c++) {
                loop[to][c] += loop[from][c];
            }
        }
    }

    /**
     * The least sheets, found one fitting at a time: from the single cuts, each fitting keeps the rows
     * that meet it and mixes the neighbours on its two sides. Rows with two kinds of FOURS in a piece
     * are left out all along: whatever is within a legal row is legal, so they are no one's neighbours.
     */
    private static final class LeastSheets {
        /** No space of three pieces has more than 40 at any step, by a trial of all of them. */
        private static final int MOST_ROWS = 64;

        private int width;
        int rows;
        int[][] row;
        /** Which numbers of a row are not 0, a bit for each. */
        private int[] support;
        private final int[] excess;
        private int nextRows;
        private int[][] nextRow;
        private int[] nextSupport;

        LeastSheets() {
            row = new int[MOST_ROWS][KINDS * MOST_PIECES];
            support = new int[MOST_ROWS];
            excess = new int[MOST_ROWS];
            nextRow = new int[MOST_ROWS][KINDS * MOST_PIECES];
            nextSupport = new int[MOST_ROWS];
        }

        void build(Space space) {
            startWithSingleCuts(KINDS * space.pieces);
            for (int side = 0; side < SIDES * space.pieces; side++) {
                for (int c = 0; c < 4 && space.isLesser(side); c++) {
                    if (c != side % SIDES) {
                        weigh(side, c, space.mate[side], space.goesTo[4 * side + c]);
                        fitAcross();
                    }
                }
            }
            sortRows();
        }

        private void startWithSingleCuts(int numbers) {
            width = numbers;
            rows = numbers;
            for (int i = 0; i < numbers; i++) {
                Arrays.fill(row[i], 0);
                row[i][i] = 1;
                support[i] = 1 << i;
            }
        }

        private void weigh(int side, int c, int mate, int d) {
            for (int i = 0; i < rows; i++) {
                excess[i] = arcsAround(row[i], side, c) - arcsAround(row[i], mate, d);
            }
        }

        private void fitAcross() {
            nextRows = 0;
            for (int i = 0; i < rows; i++) {
                if (excess[i] == 0) {
                    keep(i);
                }
                for (int j = 0; j < rows && excess[i] > 0; j++) {
                    if (excess[j] < 0 && areNeighbours(i, j)) {
                        mix(i, j);
                    }
                }
            }
            swapLists();
        }

        private void keep(int i) {
            if (nextRows < MOST_ROWS) {
                System.arraycopy(row[i], 0, nextRow[nextRows], 0, row[i].length);
                nextSupport[nextRows] = support[i];
                nextRows++;
            }
        }

        private boolean areNeighbours(int i, int j) {
            int both = support[i] | support[j];
            if (mixesFours(both)) {
                return false;
            }
            for (int k = 0; k < rows; k++) {
                if (k != i && k != j && (support[k] & ~both) == 0) {
                    return false;
                }
            }
            return true;
        }

        private static boolean mixesFours(int support) {
            for (int p = 0; p < MOST_PIECES; p++) {
                int fours = (support >> (KINDS * p + 4)) & 7;
                if ((fours & (fours - 1)) != 0) {
                    return true;
                }
            }
            return false;
        }

        private void mix(int i, int j) {
            if (nextRows >= MOST_ROWS) {
                return;
            }
            int[] mixed = nextRow[nextRows];
            Arrays.fill(mixed, 0);
            int common = 0;
            for (int x = 0; x < width; x++) {
                mixed[x] = excess[i] * row[j][x] - excess[j] * row[i][x];
                common = commonDivisor(common, mixed[x]);
            }
            for (int x = 0; x < width && common > 1; x++) {
                mixed[x] /= common;
            }
            nextSupport[nextRows] = support[i] | support[j];
            nextRows++;
        }

        private static int commonDivisor(int a, int b) {
            int big = a;
            int small = b;
            for (int i = 0; i < 64 && small != 0; i++) {
                int rest = big % small;
                big = small;
                small = rest;
            }
            return big;
        }

        private void swapLists() {
            int[][] oldRow = row;
            int[] oldSupport = support;
            row = nextRow;
            support = nextSupport;
            rows = nextRows;
            nextRow = oldRow;
            nextSupport = oldSupport;
        }

        /** Support is of no use after this, and is not sorted with the rows. */
        private void sortRows() {
            for (int i = 1; i < rows; i++) {
                int[] moved = row[i];
                int at = i;
                while (at > 0 && comesBefore(moved, row[at - 1])) {
                    row[at] = row[at - 1];
                    at--;
                }
                row[at] = moved;
            }
        }

        private boolean comesBefore(int[] one, int[] other) {
            for (int x = 0; x < width; x++) {
                if (one[x] != other[x]) {
                    return one[x] < other[x];
                }
            }
            return false;
        }
    }

    /** The sheet: its numbers, and 0 for pieces that are not there. */
    private static final class Sheet {
        final int[] row;

        Sheet() {
            row = new int[KINDS * MOST_PIECES];
        }

        void wipe() {
            Arrays.fill(row, 0);
        }

        int notZero() {
            int those = 0;
            for (int v : row) {
                if (v != 0) {
                    those++;
                }
            }
            return those;
        }

        int cutCount() {
            int cuts = 0;
            for (int v : row) {
                cuts += v;
            }
            return cuts;
        }

        boolean hasRoomFor(int[] more, int times) {
            for (int i = 0; i < row.length && i < more.length; i++) {
                if (row[i] + (long) times * more[i] > MOST_NUMBER) {
                    return false;
                }
            }
            return true;
        }

        void raise(int[] more, int times) {
            for (int i = 0; i < row.length && i < more.length; i++) {
                row[i] += times * more[i];
            }
        }

        boolean isLegal(Space space) {
            return fits(space) && !mixesFours();
        }

        boolean fits(Space space) {
            for (int side = 0; side < SIDES * space.pieces; side++) {
                if (space.isLesser(side) && !fitsAt(space, side)) {
                    return false;
                }
            }
            return true;
        }

        private boolean fitsAt(Space space, int side) {
            for (int c = 0; c < 4; c++) {
                if (c != side % SIDES) {
                    int there = arcsAround(row, space.mate[side], space.goesTo[4 * side + c]);
                    if (arcsAround(row, side, c) != there) {
                        return false;
                    }
                }
            }
            return true;
        }

        boolean mixesFours() {
            for (int p = 0; p < MOST_PIECES; p++) {
                int kinds = 0;
                for (int kind = 4; kind < KINDS; kind++) {
                    if (row[KINDS * p + kind] != 0) {
                        kinds++;
                    }
                }
                if (kinds > 1) {
                    return true;
                }
            }
            return false;
        }

        int eulerNumber(Space space) {
            return points(space) - arcs(space) + cutCount();
        }

        private int points(Space space) {
            int points = 0;
            for (int k = 0; k < space.edges.groups; k++) {
                int edge = space.edges.first[k];
                for (int kind = 0; kind < KINDS; kind++) {
                    if (meets(kind, edge % EDGES)) {
                        points += row[KINDS * (edge / EDGES) + kind];
                    }
                }
            }
            return points;
        }

        private int arcs(Space space) {
            int arcs = 0;
            for (int side = 0; side < SIDES * space.pieces; side++) {
                boolean counts = !space.isGlued(side) || space.isLesser(side);
                for (int c = 0; c < 4 && counts; c++) {
                    if (c != side % SIDES) {
                        arcs += arcsAround(row, side, c);
                    }
                }
            }
            return arcs;
        }
    }

    /** The parts of a legal sheet that has at most MOST_CUTS cuts. */
    private static final class Parts {
        /** Told as TWO sides asks: a part has two sides if its group does not clash. */
        final Groups cuts;
        /** At 7 * piece + kind: the number of the first cut of that kind there, among all cuts. */
        private final int[] firstCut;
        final int[] sizeOf;
        final int[] eulerOf;

        Parts() {
            cuts = new Groups(MOST_CUTS);
            firstCut = new int[KINDS * MOST_PIECES];
            sizeOf = new int[MOST_CUTS];
            eulerOf = new int[MOST_CUTS];
        }

        void build(Space space, int[] row) {
            int all = numberCuts(row);
            cuts.start(all);
            for (int side = 0; side < SIDES * space.pieces; side++) {
                if (space.isLesser(side)) {
                    joinAcross(space, row, side);
                }
            }
            cuts.settle();
            countCuts(all);
            countArcs(space, row);
            countPoints(space, row);
        }

        private int numberCuts(int[] row) {
            int all = 0;
            for (int i = 0; i < firstCut.length; i++) {
                firstCut[i] = all;
                all += row[i];
            }
            return Math.min(all, MOST_CUTS);
        }

        private void joinAcross(Space space, int[] row, int side) {
            int mate = space.mate[side];
            for (int c = 0; c < 4; c++) {
                int d = space.goesTo[4 * side + c];
                int arcs = c == side % SIDES ? 0 : arcsAround(row, side, c);
                for (int i = 0; i < arcs; i++) {
                    boolean unlike = looksAway(row, side, c, i) != looksAway(row, mate, d, i);
                    cuts.join(cutAt(row, side, c, i), cutAt(row, mate, d, i), unlike);
                }
            }
        }

        /** The cut that makes the i-th arc around a corner of a side. */
        private int cutAt(int[] row, int side, int corner, int i) {
            int first = KINDS * (side / SIDES);
            int threes = row[first + corner];
            if (i < threes) {
                return firstCut[first + corner] + i;
            }
            int kind = first + 4 + FOURS_OF[4 * corner + side % SIDES];
            int step = i - threes;
            return firstCut[kind] + (isNear(side, corner) ? step : row[kind] - 1 - step);
        }

        private static boolean looksAway(int[] row, int side, int corner, int i) {
            return i >= row[KINDS * (side / SIDES) + corner] && !isNear(side, corner);
        }

        /** FOURS around a corner of a side have the edge of both at one end: whether corner 0 is at it too. */
        private static boolean isNear(int side, int corner) {
            return corner == 0 || side % SIDES == 0;
        }

        private void countCuts(int all) {
            for (int k = 0; k < cuts.groups; k++) {
                sizeOf[k] = 0;
            }
            for (int cut = 0; cut < all; cut++) {
                sizeOf[cuts.groupOf[cut]]++;
            }
            for (int k = 0; k < cuts.groups; k++) {
                eulerOf[k] = sizeOf[k];
            }
        }

        private void countArcs(Space space, int[] row) {
            for (int side = 0; side < SIDES * space.pieces; side++) {
                boolean counts = !space.isGlued(side) || space.isLesser(side);
                for (int c = 0; c < 4 && counts; c++) {
                    int arcs = c == side % SIDES ? 0 : arcsAround(row, side, c);
                    for (int i = 0; i < arcs; i++) {
                        eulerOf[cuts.groupOf[cutAt(row, side, c, i)]]--;
                    }
                }
            }
        }

        private void countPoints(Space space, int[] row) {
            for (int k = 0; k < space.edges.groups; k++) {
                int edge = space.edges.first[k];
                for (int kind = 0; kind < KINDS; kind++) {
                    int at = KINDS * (edge / EDGES) + kind;
                    int points = meets(kind, edge % EDGES) ? row[at] : 0;
                    for (int i = 0; i < points; i++) {
                        eulerOf[cuts.groupOf[firstCut[at] + i]]++;
                    }
                }
            }
        }
    }
}
