import java.util.NoSuchElementException;

/** A store of cells that hands out pieces of any size and takes them back. */
public final class ChunkShelf {
    private static final int FIRST_CELLS = 1024;
    private static final int FEWEST_CELLS = 16;
    private static final int MOST_CELLS = 16384;
    private static final int LEAST_SIZE = 3;
    private static final int GREATEST_SIZE = 5000;
    /** From this size on a free piece lies in the tree, below it in a row of its own. */
    private static final int GREAT_FROM = 64;

    private final Shelves shelves;
    private Piece lowest;
    private int cellCount;
    private int misses;

    public ChunkShelf() {
        shelves = new Shelves();
        startWith(FIRST_CELLS);
    }

    public int space(int n) throws IllegalArgumentException {
        if (n < FEWEST_CELLS || n > MOST_CELLS) {
            throw new IllegalArgumentException("n is not 16 .. 16384");
        }
        int before = cellCount;
        startWith(n);
        return before;
    }

    public int take(int size) throws IllegalArgumentException {
        requireSize(size);
        Piece found = shelves.smallestFrom(size);
        if (found == null) {
            misses++;
            return 0;
        }
        shelves.pullOut(found);
        if (found.cells > size) {
            cut(found, size);
        }
        return found.at;
    }

    public int give(int a) throws NoSuchElementException {
        Piece found = beginningAt(a);
        if (found == null || found.isFree) {
            throw new NoSuchElementException("no used piece begins there");
        }
        shelves.putIn(found);
        return found.cells;
    }

    public int join(int a) throws NoSuchElementException {
        Piece found = beginningAt(a);
        if (found == null || !found.isFree) {
            throw new NoSuchElementException("no free piece begins there");
        }
        swallowFreeBehind(found);
        return found.cells;
    }

    public int joinAll() {
        int fewer = 0;
        for (Piece p = lowest; p != null; p = p.behind) {
            if (p.isFree) {
                fewer += swallowFreeBehind(p);
            }
        }
        return fewer;
    }

    public int suffices(int size) throws IllegalArgumentException {
        requireSize(size);
        Piece found = shelves.smallestFrom(size);
        return found == null ? 0 : found.at;
    }

    public int piece(int a) {
        Piece found = beginningAt(a);
        if (found == null) {
            return 0;
        }
        return found.isFree ? -found.cells : found.cells;
    }

    public int cover(int a) {
        Piece found = holding(a);
        return found == null ? 0 : found.at;
    }

    public int free(int size, int k) throws IllegalArgumentException {
        if (k < 0) {
            throw new IllegalArgumentException("k is below 0");
        }
        Row row = shelves.rowOf(size);
        Piece found = row == null ? null : row.kthLatest(k);
        return found == null ? 0 : found.at;
    }

    public int count(int what) throws IllegalArgumentException {
        switch (what) {
            case 0:
                return freeCells();
            case 1:
                return crumbCells();
            case 2:
                return usedPieces();
            case 3:
                return shelvedPieces();
            case 4:
                return crumbs();
            case 5:
                return greatestFree();
            case 6:
                return misses;
            case 7:
                return cellCount;
            default:
                throw new IllegalArgumentException("what is not 0 .. 7");
        }
    }

    public int faults() {
        int wrong = 0;
        int due = 1;
        int shelved = 0;
        Piece p = lowest;
        // No more pieces than cells: the counter ends the loop even if the chain were a ring.
        for (int i = 0; p != null && i < cellCount; i++) {
            if (p.at != due) {
                wrong++;
            }
            if (p.cells < 1 || !p.isFree && p.cells < LEAST_SIZE) {
                wrong++;
            }
            p.awaited = p.isShelved();
            shelved += p.awaited ? 1 : 0;
            due = p.at + p.cells;
            p = p.behind;
        }
        if (p != null || due != cellCount + 1) {
            wrong++;
        }
        return wrong + shelves.wrongThings(shelved, cellCount);
    }

    private void startWith(int n) {
        shelves.clear();
        cellCount = n;
        misses = 0;
        lowest = new Piece(1, n, null);
        shelves.putIn(lowest);
    }

    private static void requireSize(int size) {
        if (size < LEAST_SIZE || size > GREATEST_SIZE) {
            throw new IllegalArgumentException("size is not 3 .. 5000");
        }
    }

    private void cut(Piece p, int size) {
        Piece rest = new Piece(p.at + size, p.cells - size, p.behind);
        p.cells = size;
        p.behind = rest;
        shelves.putIn(rest);
    }

    /** Answers how many pieces there are less. */
    private int swallowFreeBehind(Piece p) {
        if (p.behind == null || !p.behind.isFree) {
            return 0;
        }
        shelves.pullOut(p);
        int fewer = 0;
        for (Piece q = p.behind; q != null && q.isFree; q = q.behind) {
            shelves.pullOut(q);
            p.cells += q.cells;
            p.behind = q.behind;
            fewer++;
        }
        shelves.putIn(p);
        return fewer;
    }

    private Piece beginningAt(int a) {
        Piece found = holding(a);
        return found != null && found.at == a ? found : null;
    }

    private Piece holding(int a) {
        if (a < 1 || a > cellCount) {
            return null;
        }
        Piece found = lowest;
        for (Piece p = lowest; p != null && p.at <= a; p = p.behind) {
            found = p;
        }
        return found;
    }

    private int freeCells() {
        int sum = 0;
        for (Piece p = lowest; p != null; p = p.behind) {
            sum += p.isFree ? p.cells : 0;
        }
        return sum;
    }

    private int crumbCells() {
        int sum = 0;
        for (Piece p = lowest; p != null; p = p.behind) {
            sum += p.isCrumb() ? p.cells : 0;
        }
        return sum;
    }

    private int usedPieces() {
        int sum = 0;
        for (Piece p = lowest; p != null; p = p.behind) {
            sum += p.isFree ? 0 : 1;
        }
        return sum;
    }

    private int shelvedPieces() {
        int sum = 0;
        for (Piece p = lowest; p != null; p = p.behind) {
            sum += p.isShelved() ? 1 : 0;
        }
        return sum;
    }

    private int crumbs() {
        int sum = 0;
        for (Piece p = lowest; p != null; p = p.behind) {
            sum += p.isCrumb() ? 1 : 0;
        }
        return sum;
    }

    /** Crumbs are free pieces too: the greatest may be one. */
    private int greatestFree() {
        int greatest = 0;
        for (Piece p = lowest; p != null; p = p.behind) {
            if (p.isFree && p.cells > greatest) {
                greatest = p.cells;
            }
        }
        return greatest;
    }

    /** Cells at .. at + cells - 1; the pieces form a chain from the lowest address up. */
    private static final class Piece {
        private final int at;
        private int cells;
        private boolean isFree;
        /** When it came to be free; kept so that faults() can check the order in a row. */
        private long since;
        private Piece behind;
        private Piece older;
        /** Used by faults() alone: the chain has it, and no row has shown it yet. */
        private boolean awaited;

        private Piece(int at, int cells, Piece behind) {
            this.at = at;
            this.cells = cells;
            this.behind = behind;
        }

        private boolean isShelved() {
            return isFree && cells >= LEAST_SIZE;
        }

        private boolean isCrumb() {
            return isFree && cells < LEAST_SIZE;
        }
    }

    /** The free pieces of one size, the latest first; a great row is also a knot of the tree. */
    private static final class Row {
        private final int cells;
        private Piece latest;
        private Row less;
        private Row more;
        /** Used by faults() alone: the sizes that may be in this place of the tree. */
        private int from;
        private int to;
        /** Used by faults() alone: the row to go to after this one. */
        private Row next;

        private Row(int cells) {
            this.cells = cells;
        }

        private void push(Piece p) {
            p.older = latest;
            latest = p;
        }

        private void drop(Piece gone) {
            if (latest == gone) {
                latest = gone.older;
            }
            for (Piece p = latest; p != null; p = p.older) {
                if (p.older == gone) {
                    p.older = gone.older;
                }
            }
        }

        private Piece kthLatest(int k) {
            Piece p = latest;
            for (int i = 0; p != null && i < k; i++) {
                p = p.older;
            }
            return p;
        }
    }

    /** Rows of great sizes in a search tree by size; no row in it is empty between two calls. */
    private static final class Tree {
        private Row root;

        private Row rowOf(int cells) {
            Row row = root;
            while (row != null && row.cells != cells) {
                row = cells < row.cells ? row.less : row.more;
            }
            return row;
        }

        private Row leastFrom(int cells) {
            Row best = null;
            Row row = root;
            while (row != null) {
                if (row.cells >= cells) {
                    best = row;
                    row = row.less;
                } else {
                    row = row.more;
                }
            }
            return best;
        }

        private Row rowMadeFor(int cells) {
            Row row = rowOf(cells);
            if (row == null) {
                row = new Row(cells);
                hang(parentFor(cells), cells, row);
            }
            return row;
        }

        private void remove(Row gone) {
            hang(parentFor(gone.cells), gone.cells, heirOf(gone));
        }

        /** The row under which the row of that size hangs, or would hang; null at the root. */
        private Row parentFor(int cells) {
            Row parent = null;
            Row row = root;
            while (row != null && row.cells != cells) {
                parent = row;
                row = cells < row.cells ? row.less : row.more;
            }
            return parent;
        }

        private void hang(Row parent, int cells, Row row) {
            if (parent == null) {
                root = row;
            } else if (cells < parent.cells) {
                parent.less = row;
            } else {
                parent.more = row;
            }
        }

        /**
         * Hanging the lesser branch below the least of the greater one keeps the order with
         * two links; the depth it costs is bounded, for few sizes fit into 16384 cells at once.
         */
        private static Row heirOf(Row gone) {
            if (gone.more == null) {
                return gone.less;
            }
            Row least = gone.more;
            while (least.less != null) {
                least = least.less;
            }
            least.less = gone.less;
            return gone.more;
        }
    }

    /**
     * The way of faults() over the tree, which may be none: a link to a size that may not be there
     * is counted and not followed, so that no row is met twice and the way ends.
     */
    private static final class Walk {
        private Row open;
        private int wrongLinks;

        private void enter(Row row, int from, int to) {
            if (row == null) {
                return;
            }
            if (row.cells < from || row.cells > to) {
                wrongLinks++;
                return;
            }
            row.from = from;
            row.to = to;
            row.next = open;
            open = row;
        }

        /** Null when all have been met. */
        private Row next() {
            Row row = open;
            if (row != null) {
                open = row.next;
                enter(row.less, row.from, row.cells - 1);
                enter(row.more, row.cells + 1, row.to);
            }
            return row;
        }
    }

    /** All free pieces that are no crumbs, by size. */
    private static final class Shelves {
        private final Row[] small;
        private final Tree great;
        private long now;

        private Shelves() {
            small = new Row[GREAT_FROM - LEAST_SIZE];
            for (int i = 0; i < small.length; i++) {
                small[i] = new Row(LEAST_SIZE + i);
            }
            great = new Tree();
        }

        private void clear() {
            for (int i = 0; i < small.length; i++) {
                small[i].latest = null;
            }
            great.root = null;
        }

        /** Null if there is no such row: for crumbs, and for great sizes that none has. */
        private Row rowOf(int cells) {
            if (cells < LEAST_SIZE) {
                return null;
            }
            return cells < GREAT_FROM ? small[cells - LEAST_SIZE] : great.rowOf(cells);
        }

        private Piece smallestFrom(int size) {
            for (int cells = Math.max(size, LEAST_SIZE); cells < GREAT_FROM; cells++) {
                Row row = small[cells - LEAST_SIZE];
                if (row.latest != null) {
                    return row.latest;
                }
            }
            Row row = great.leastFrom(size);
            return row == null ? null : row.latest;
        }

        private void putIn(Piece p) {
            p.isFree = true;
            now++;
            p.since = now;
            if (p.cells >= GREAT_FROM) {
                great.rowMadeFor(p.cells).push(p);
            } else if (p.cells >= LEAST_SIZE) {
                small[p.cells - LEAST_SIZE].push(p);
            }
        }

        private void pullOut(Piece p) {
            Row row = rowOf(p.cells);
            if (row != null) {
                row.drop(p);
                if (row.latest == null && row.cells >= GREAT_FROM) {
                    great.remove(row);
                }
            }
            p.isFree = false;
        }

        /**
         * Shelved tells how many pieces must be met, most how many a row or the tree can hold
         * at all, so that the loops end even where something is wrong.
         */
        private int wrongThings(int shelved, int most) {
            int wrong = 0;
            int met = 0;
            for (int i = 0; i < small.length; i++) {
                if (small[i].cells != LEAST_SIZE + i) {
                    wrong++;
                }
                wrong += wrongInRow(small[i], most);
                met += piecesIn(small[i], most);
            }
            Walk walk = new Walk();
            walk.enter(great.root, GREAT_FROM, most);
            Row row = walk.next();
            for (int i = 0; row != null && i < most; i++) {
                if (row.latest == null) {
                    wrong++;
                }
                wrong += wrongInRow(row, most);
                met += piecesIn(row, most);
                row = walk.next();
            }
            wrong += walk.wrongLinks;
            return met == shelved ? wrong : wrong + 1;
        }

        private static int wrongInRow(Row row, int most) {
            int wrong = 0;
            Piece p = row.latest;
            for (int i = 0; p != null && i < most; i++) {
                if (!p.awaited || p.cells != row.cells) {
                    wrong++;
                }
                if (p.older != null && p.older.since >= p.since) {
                    wrong++;
                }
                p.awaited = false;
                p = p.older;
            }
            return wrong;
        }

        private static int piecesIn(Row row, int most) {
            int met = 0;
            for (Piece p = row.latest; p != null && met < most; p = p.older) {
                met++;
            }
            return met;
        }
    }
}
