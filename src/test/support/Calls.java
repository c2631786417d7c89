import java.util.NoSuchElementException;
import java.util.TreeSet;

/** Calls written as text ("free 10 0"), so that a test can list them beside the answers due. */
final class Calls {
    static final int ILLEGAL = Integer.MIN_VALUE;
    static final int NO_SUCH = Integer.MIN_VALUE + 1;

    private Calls() {
    }

    static int answer(ChunkShelf x, String call) {
        String[] words = call.split(" ");
        int a = words.length > 1 ? number(words[1]) : 0;
        int b = words.length > 2 ? number(words[2]) : 0;
        return answer(x, words[0], a, b);
    }

    static int answer(ChunkShelf x, String name, int a, int b) {
        try {
            switch (name) {
                case "space": return x.space(a);
                case "take": return x.take(a);
                case "give": return x.give(a);
                case "join": return x.join(a);
                case "joinAll": return x.joinAll();
                case "suffices": return x.suffices(a);
                case "piece": return x.piece(a);
                case "cover": return x.cover(a);
                case "free": return x.free(a, b);
                case "count": return x.count(a);
                case "faults": return x.faults();
                default: throw new AssertionError("unknown call: " + name);
            }
        } catch (IllegalArgumentException | NoSuchElementException e) {
            return ofThrown(e);
        }
    }

    /** A class below the one that the document names is not what it asks for. */
    private static int ofThrown(RuntimeException e) {
        if (e.getClass() == IllegalArgumentException.class) {
            return ILLEGAL;
        }
        if (e.getClass() == NoSuchElementException.class) {
            return NO_SUCH;
        }
        throw new AssertionError("thrown is " + e.getClass().getName(), e);
    }

    static String name(int answer) {
        return answer == ILLEGAL ? "IllegalArgument" : answer == NO_SUCH ? "NoSuchElement" : Integer.toString(answer);
    }

    /** Reads what name() writes, and MIN and MAX for the two ends of int. */
    static int number(String text) {
        switch (text) {
            case "IllegalArgument": return ILLEGAL;
            case "NoSuchElement": return NO_SUCH;
            case "MIN": return Integer.MIN_VALUE;
            case "MAX": return Integer.MAX_VALUE;
            default: return Integer.parseInt(text);
        }
    }

    /** All that can be asked of an object: its counts, its pieces, and the order of the free ones. */
    static String stateOf(ChunkShelf x) {
        StringBuilder state = new StringBuilder("counts");
        for (int what = 0; what <= 7; what++) {
            state.append(' ').append(x.count(what));
        }
        TreeSet<Integer> freeSizes = new TreeSet<>();
        state.append(", pieces");
        int cells = x.count(7);
        int size = 0;
        for (int a = 1; a <= cells; a += Math.max(1, Math.abs(size))) {
            size = x.piece(a);
            state.append(' ').append(a).append(':').append(size);
            if (size < 0) {
                freeSizes.add(-size);
            }
        }
        for (int freeSize : freeSizes) {
            state.append(", free ").append(freeSize);
            int at = x.free(freeSize, 0);
            for (int k = 1; at != 0; k++) {
                state.append(' ').append(at);
                at = x.free(freeSize, k);
            }
        }
        return state.append(", faults ").append(x.faults()).toString();
    }
}
