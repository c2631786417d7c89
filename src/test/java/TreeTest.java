import java.util.ArrayList;
import java.util.List;

/**
 * "Great ones in a tree": five great sizes come in every order and go in every order, and after
 * each step the smallest that suffices must be found among those that are left.
 */
public final class TreeTest {
    private static final int[] SIZES = {64, 65, 70, 90, 91};
    private static final int CELLS = 600;

    private static int wrong = 0;

    public static void main(String[] args) {
        List<int[]> orders = new ArrayList<>();
        addOrders(orders, new int[SIZES.length], 0);
        for (int[] coming : orders) {
            for (int[] going : orders) {
                if (wrong == 0) {
                    comeAndGo(coming, going);
                }
            }
        }
        System.out.println(wrong == 0 ? orders.size() * orders.size() + " runs are as due" : "an answer is not as due");
        if (wrong != 0) {
            System.exit(1);
        }
    }

    private static void addOrders(List<int[]> orders, int[] order, int filled) {
        if (filled == order.length) {
            orders.add(order.clone());
            return;
        }
        for (int i = 0; i < order.length; i++) {
            boolean isNew = true;
            for (int j = 0; j < filled; j++) {
                isNew &= order[j] != i;
            }
            if (isNew) {
                order[filled] = i;
                addOrders(orders, order, filled + 1);
            }
        }
    }

    private static void comeAndGo(int[] coming, int[] going) {
        ChunkShelf x = new ChunkShelf();
        StringBuilder story = new StringBuilder();
        due(story, x, "space " + CELLS, 1024);
        int[] at = new int[SIZES.length];
        int next = 1;
        for (int i = 0; i < SIZES.length; i++) {
            at[i] = next;
            due(story, x, "take " + SIZES[i], next);
            due(story, x, "take 3", next + SIZES[i]);
            next += SIZES[i] + 3;
        }
        boolean[] isFree = new boolean[SIZES.length];
        for (int i : coming) {
            due(story, x, "give " + at[i], SIZES[i]);
            isFree[i] = true;
            askForEach(story, x, at, isFree, next);
        }
        for (int i : going) {
            due(story, x, "take " + SIZES[i], at[i]);
            isFree[i] = false;
            askForEach(story, x, at, isFree, next);
        }
    }

    private static void askForEach(StringBuilder story, ChunkShelf x, int[] at, boolean[] isFree, int rest) {
        for (int i = 0; i < SIZES.length; i++) {
            due(story, x, "free " + SIZES[i] + " 0", isFree[i] ? at[i] : 0);
            int j = i;
            while (j < SIZES.length && !isFree[j]) {
                j++;
            }
            due(story, x, "suffices " + SIZES[i], j < SIZES.length ? at[j] : rest);
        }
        due(story, x, "faults", 0);
    }

    private static void due(StringBuilder story, ChunkShelf x, String call, int want) {
        int got = Calls.answer(x, call);
        story.append(call).append(" = ").append(Calls.name(got)).append('\n');
        if (got != want && wrong == 0) {
            wrong++;
            System.out.println(story + "due is " + Calls.name(want));
        }
    }
}
