import java.lang.reflect.Field;

/**
 * Promise 12 from within: no call of the face can bring a fault about, so each test breaks one
 * thing in the private state, and faults() must then tell more than 0, and tell it in the end.
 */
public final class FaultsTest {
    private static int wrong = 0;

    public static void main(String[] args) throws ReflectiveOperationException {
        endAfterAMinute();
        check("untouched", made(), true);
        pieces();
        rows();
        tree();
        links();
        System.out.println(wrong == 0 ? "all faults are found" : wrong + " faults are not found");
        if (wrong != 0) {
            System.exit(1);
        }
    }

    /** So that a faults() that never ends is a failed test, and not one that hangs. */
    private static void endAfterAMinute() {
        Thread guard = new Thread(() -> {
            try {
                Thread.sleep(60_000);
            } catch (InterruptedException e) {
                return;
            }
            System.out.println("faults() does not end");
            Runtime.getRuntime().halt(1);
        });
        guard.setDaemon(true);
        guard.start();
    }

    /** Free: 10 at 1, 10 at 14, 70 at 27, 70 at 100, 90 at 173, 80 at 266, a crumb of 1 at 358, the rest. */
    private static ChunkShelf made() {
        ChunkShelf x = new ChunkShelf();
        int[] sizes = {10, 10, 70, 70, 90, 80, 10};
        int[] at = new int[sizes.length];
        for (int i = 0; i < sizes.length; i++) {
            at[i] = x.take(sizes[i]);
            x.take(3);
        }
        x.give(at[6]);
        x.take(9);
        for (int i = 0; i < 6; i++) {
            x.give(at[i]);
        }
        return x;
    }

    private static void pieces() throws ReflectiveOperationException {
        ChunkShelf x = made();
        set(piece(x, 0), "cells", 9);
        check("a gap between pieces", x, false);

        x = made();
        set(piece(x, 1), "cells", 4);
        check("a used piece that overlaps the next", x, false);

        x = made();
        set(piece(x, 1), "cells", 2);
        set(piece(x, 2), "at", 13);
        set(piece(x, 2), "isFree", false);
        set(piece(x, 2), "cells", 11);
        set(row(x, 10), "latest", piece(x, 0));
        check("a used piece that is too small", x, false);

        x = made();
        set(piece(x, 13), "cells", 0);
        set(piece(x, 14), "at", 358);
        set(piece(x, 14), "cells", 4);
        check("a piece without cells", x, false);

        x = made();
        set(x, "cellCount", 1025);
        check("cells behind the last piece", x, false);

        x = made();
        set(piece(x, 2), "behind", null);
        check("a chain that is too short", x, false);

        x = made();
        set(piece(x, 2), "behind", piece(x, 0));
        check("a chain that is a ring", x, false);

        x = made();
        set(piece(x, 0), "isFree", false);
        check("a used piece in a row", x, false);

        x = made();
        set(piece(x, 0), "isFree", false);
        set(piece(x, 1), "isFree", true);
        check("a used piece in a row instead of a free one", x, false);

        x = made();
        set(piece(x, 1), "isFree", true);
        check("a free piece in no row", x, false);
    }

    private static void rows() throws ReflectiveOperationException {
        ChunkShelf x = made();
        set(row(x, 10), "latest", null);
        check("a row without its pieces", x, false);

        x = made();
        Object latest = get(row(x, 10), "latest");
        set(get(latest, "older"), "older", latest);
        check("a row that is a ring", x, false);

        x = made();
        set(get(row(x, 10), "latest"), "since", 0L);
        check("a row out of order", x, false);

        x = made();
        set(get(row(x, 10), "latest"), "since", get(get(get(row(x, 10), "latest"), "older"), "since"));
        check("two of a row at the same time", x, false);

        x = made();
        set(piece(x, 6), "since", 0L);
        check("a row of the tree out of order", x, false);

        x = made();
        set(row(x, 11), "latest", get(row(x, 10), "latest"));
        set(row(x, 10), "latest", null);
        check("pieces in the row of another size", x, false);

        x = made();
        Object[] small = (Object[]) get(get(x, "shelves"), "small");
        Object ten = small[10 - 3];
        small[10 - 3] = small[11 - 3];
        small[11 - 3] = ten;
        check("two rows in each other's place", x, false);

        goneInARow();
    }

    /** The first faults() marks the piece while it is there: the second must not trust that mark. */
    private static void goneInARow() throws ReflectiveOperationException {
        ChunkShelf x = new ChunkShelf();
        for (int size : new int[] {10, 10, 3, 10, 3}) {
            x.take(size);
        }
        x.give(1);
        x.give(11);
        x.give(24);
        check("three of a row", x, true);
        Object gone = piece(x, 1);
        x.join(1);
        check("two of them joined", x, true);
        set(gone, "older", null);
        set(row(x, 10), "latest", gone);
        check("a piece that is gone in a row instead of the one that is there", x, false);
    }

    private static void tree() throws ReflectiveOperationException {
        ChunkShelf x = made();
        set(get(get(x, "shelves"), "great"), "root", null);
        check("an empty tree", x, false);

        x = made();
        Object root = root(x);
        set(root, "latest", null);
        check("an empty row in the tree", x, false);

        x = made();
        root = root(x);
        set(get(root, "latest"), "isFree", false);
        set(root, "latest", null);
        check("an empty row in the tree, and none of its pieces is free", x, false);

        x = made();
        Object least = root(x);
        while (get(least, "less") != null) {
            least = get(least, "less");
        }
        set(least, "less", row(x, 10));
        Object[] small = (Object[]) get(get(x, "shelves"), "small");
        small[10 - 3] = row(new ChunkShelf(), 10);
        check("a small row in the tree", x, false);

        x = made();
        root = root(x);
        Object less = get(root, "less");
        set(root, "less", get(root, "more"));
        set(root, "more", less);
        check("branches on the wrong side", x, false);

        x = made();
        set(root(x), "cells", 1025);
        set(get(root(x), "latest"), "cells", 1025);
        check("a row for more cells than there are", x, false);
    }

    /** The tree of made(): the rest of 663 cells, below it 70, then 90, then 80. */
    private static void links() throws ReflectiveOperationException {
        String[] ways = {"", "less", "less more", "less more less"};
        int[] cells = {663, 70, 90, 80};
        for (int i = 0; i < ways.length; i++) {
            int size = (Integer) get(at(made(), ways[i]), "cells");
            if (size != cells[i]) {
                wrong++;
                System.out.println("'" + ways[i] + "' leads to " + size + " cells, due is " + cells[i]);
            }
        }
        for (String from : ways) {
            for (String to : ways) {
                for (String side : new String[] {"less", "more"}) {
                    ChunkShelf x = made();
                    if (get(at(x, from), side) != at(x, to)) {
                        set(at(x, from), side, at(x, to));
                        check("a link '" + side + "' of '" + from + "' to '" + to + "'", x, false);
                    }
                }
            }
        }
        emptyRows();
        twoRowsOfOneSize();
    }

    /** Without pieces, so that no count of pieces can give them away. */
    private static void emptyRows() throws ReflectiveOperationException {
        ChunkShelf x = made();
        Object empty = root(new ChunkShelf());
        set(empty, "latest", null);
        set(root(x), "more", empty);
        check("an empty row where its size may be", x, false);

        x = made();
        set(at(x, "less"), "less", empty);
        check("an empty row where its size may not be", x, false);
    }

    /** Each with one of the two pieces of 70 cells, so that all pieces are met. */
    private static void twoRowsOfOneSize() throws ReflectiveOperationException {
        ChunkShelf x = made();
        set(at(x, "less"), "less", secondRowOf70(x));
        check("two rows of one size, on the lesser side", x, false);

        x = made();
        Object second = secondRowOf70(x);
        set(second, "more", at(x, "less more"));
        set(at(x, "less"), "more", second);
        check("two rows of one size, on the greater side", x, false);
    }

    private static Object secondRowOf70(ChunkShelf x) throws ReflectiveOperationException {
        Object second = root(new ChunkShelf());
        Object latest = get(at(x, "less"), "latest");
        set(second, "cells", 70);
        set(second, "latest", get(latest, "older"));
        set(latest, "older", null);
        return second;
    }

    private static Object root(ChunkShelf x) throws ReflectiveOperationException {
        return get(get(get(x, "shelves"), "great"), "root");
    }

    private static Object at(ChunkShelf x, String way) throws ReflectiveOperationException {
        Object row = root(x);
        for (String side : way.isEmpty() ? new String[0] : way.split(" ")) {
            row = get(row, side);
        }
        return row;
    }

    private static Object piece(ChunkShelf x, int index) throws ReflectiveOperationException {
        Object piece = get(x, "lowest");
        for (int i = 0; i < index; i++) {
            piece = get(piece, "behind");
        }
        return piece;
    }

    private static Object row(ChunkShelf x, int cells) throws ReflectiveOperationException {
        return ((Object[]) get(get(x, "shelves"), "small"))[cells - 3];
    }

    private static Object get(Object owner, String name) throws ReflectiveOperationException {
        return field(owner, name).get(owner);
    }

    private static void set(Object owner, String name, Object value) throws ReflectiveOperationException {
        field(owner, name).set(owner, value);
    }

    private static Field field(Object owner, String name) throws ReflectiveOperationException {
        Field field = owner.getClass().getDeclaredField(name);
        field.setAccessible(true);
        return field;
    }

    private static void check(String what, ChunkShelf x, boolean sound) {
        int faults = x.faults();
        if (sound ? faults != 0 : faults <= 0) {
            wrong++;
            System.out.println(what + ": faults() answered " + faults);
        }
    }
}
