/**
 * "Such a call changes nothing": each call that is refused, and each that only asks, is made in
 * several states, on an object of its own, and all that can be asked is compared before and after.
 */
public final class UnchangedTest {
    private static final String[] STATES = {
        "",
        "space 16, take 16",
        "space 16, take 14, take 3",
        "space 17, take 5, take 11, give 1, take 3, take 5, take 9",
        "space 16, take 4, take 4, take 4, take 4, give 5, give 13, give 1",
        "space 60, take 5, take 5, take 3, take 10, take 3, take 8, give 1, give 14, give 6, take 40, take 4",
        "space 300, take 70, take 70, take 3, take 64, take 63, give 71, give 144, give 1, give 208, take 200",
        "space 400, take 80, take 3, take 70, take 3, take 90, take 3, give 1, give 84, give 157, join 157",
        "space 16384, take 5000, take 5000, take 5000, give 5001, take 4000, give 1, take 5000, take 5000",
    };
    private static final int[] WRONG_SPACES = {Integer.MIN_VALUE, -16, -1, 0, 1, 15, 16385, Integer.MAX_VALUE};
    private static final int[] WRONG_SIZES = {Integer.MIN_VALUE, -3, -1, 0, 1, 2, 5001, 16384, Integer.MAX_VALUE};
    private static final int[] WRONG_KINDS = {Integer.MIN_VALUE, -1, 8, Integer.MAX_VALUE};
    private static final int[] NO_CELLS = {Integer.MIN_VALUE, -1, 0, 16385, Integer.MAX_VALUE};

    private static int calls = 0;
    private static int wrong = 0;

    public static void main(String[] args) {
        for (String way : STATES) {
            refusedByNumber(way);
            refusedByPiece(way);
            onlyAsked(way);
            joinsWithNothingBehind(way);
            sufficesIsWhatTakeAnswers(way);
            takeThatFindsNone(way);
        }
        System.out.println(wrong == 0 ? calls + " calls are as due" : wrong + " of " + calls + " calls are not as due");
        if (wrong != 0) {
            System.exit(1);
        }
    }

    private static void refusedByNumber(String way) {
        for (int n : WRONG_SPACES) {
            leaves(way, "space " + n, Calls.ILLEGAL);
        }
        for (int size : WRONG_SIZES) {
            leaves(way, "take " + size, Calls.ILLEGAL);
            leaves(way, "suffices " + size, Calls.ILLEGAL);
        }
        for (int what : WRONG_KINDS) {
            leaves(way, "count " + what, Calls.ILLEGAL);
        }
        for (int size : new int[] {Integer.MIN_VALUE, -1, 0, 1, 2, 3, 4, 5, 63, 64, 70, 1024, Integer.MAX_VALUE}) {
            leaves(way, "free " + size + " -1", Calls.ILLEGAL);
            leaves(way, "free " + size + " " + Integer.MIN_VALUE, Calls.ILLEGAL);
        }
    }

    /** give() is refused wherever no used piece begins, join() wherever no free one does. */
    private static void refusedByPiece(String way) {
        for (int a : NO_CELLS) {
            leaves(way, "give " + a, Calls.NO_SUCH);
            leaves(way, "join " + a, Calls.NO_SUCH);
        }
        int cells = after(way).count(7);
        int step = cells > 2000 ? 500 : 1;
        for (int a = 1; a <= cells + 1; a += step) {
            int size = after(way).piece(a);
            if (size <= 0) {
                leaves(way, "give " + a, Calls.NO_SUCH);
            }
            if (size >= 0) {
                leaves(way, "join " + a, Calls.NO_SUCH);
            }
        }
    }

    private static void onlyAsked(String way) {
        for (int i : new int[] {Integer.MIN_VALUE, -1, 0, 1, 2, 3, 4, 5, 14, 16, 17, 63, 64, 70, 5000, Integer.MAX_VALUE}) {
            leaves(way, "piece " + i, after(way).piece(i));
            leaves(way, "cover " + i, after(way).cover(i));
            leaves(way, "free " + i + " 0", after(way).free(i, 0));
            leaves(way, "free " + i + " 1", after(way).free(i, 1));
        }
        for (int what = 0; what <= 7; what++) {
            leaves(way, "count " + what, after(way).count(what));
        }
        leaves(way, "faults", 0);
    }

    private static void joinsWithNothingBehind(String way) {
        ChunkShelf x = after(way);
        int cells = x.count(7);
        for (int a = 1; a <= cells; a += Math.abs(x.piece(a))) {
            int size = x.piece(a);
            if (size < 0 && x.piece(a - size) >= 0) {
                leaves(way, "join " + a, -size);
            }
        }
    }

    private static void sufficesIsWhatTakeAnswers(String way) {
        for (int size = 3; size <= 5000; size += size < 410 ? 1 : 90) {
            leaves(way, "suffices " + size, after(way).take(size));
        }
    }

    /** Nothing but the count of such takes changes. */
    private static void takeThatFindsNone(String way) {
        for (int size : new int[] {3, 4, 9, 40, 64, 200, 1000, 5000}) {
            ChunkShelf x = after(way);
            int misses = x.count(6);
            String before = Calls.stateOf(after(way));
            if (x.take(size) == 0) {
                String counts = "counts( \\d+){6} ";
                String want = before.replaceFirst("^(" + counts + ")\\d+", "$1" + (misses + 1));
                compare(way, "take " + size, want, Calls.stateOf(x));
            }
        }
    }

    private static void leaves(String way, String call, int want) {
        ChunkShelf x = after(way);
        int got = Calls.answer(x, call);
        if (got != want) {
            wrong++;
            System.out.println(way + ", " + call + " answered " + Calls.name(got) + ", due is " + Calls.name(want));
        }
        compare(way, call, Calls.stateOf(after(way)), Calls.stateOf(x));
    }

    private static void compare(String way, String call, String want, String got) {
        calls++;
        if (!got.equals(want)) {
            wrong++;
            System.out.println(way + ", " + call + " left\n  " + got + "\ndue is\n  " + want);
        }
    }

    private static ChunkShelf after(String way) {
        ChunkShelf x = new ChunkShelf();
        for (String call : way.split(", ")) {
            if (!call.isEmpty()) {
                Calls.answer(x, call);
            }
        }
        return x;
    }
}
