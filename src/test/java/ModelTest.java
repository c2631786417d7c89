import java.util.ArrayList;
import java.util.List;
import java.util.Random;

/** Long runs of calls, each answer beside that of a plain model with one list and no rows. */
public final class ModelTest {
    private static final int ILLEGAL = Calls.ILLEGAL;
    private static final int NO_SUCH = Calls.NO_SUCH;
    private static final int CALLS = 512;
    private static final int[] SPACES = {16, 17, 40, 64, 200, 1000, 5003, 16384};
    private static final String[] CALL_NAMES = {"space", "take", "give", "join", "joinAll", "suffices",
        "piece", "cover", "free", "count", "faults"};
    private static final int[][] WEIGHTS = {
        {1, 60, 30, 10, 2, 10, 10, 10, 15, 10, 5},
        {0, 40, 40, 5, 1, 5, 5, 5, 10, 5, 5},
        {0, 60, 50, 0, 0, 2, 1, 1, 2, 1, 3},
        {0, 50, 10, 5, 0, 5, 5, 5, 10, 5, 5},
    };
    private static final int[][] SIZES = {{3, 6}, {3, 70}, {60, 68}, {64, 200}, {3, 400}, {900, 5000}};

    private static int wrong = 0;

    public static void main(String[] args) {
        int run = 0;
        for (int space : SPACES) {
            for (int[] weights : WEIGHTS) {
                for (int[] sizes : SIZES) {
                    for (int seed = 0; seed < 10 && wrong == 0; seed++) {
                        run++;
                        compare(run, space, weights, sizes);
                    }
                }
            }
        }
        System.out.println(wrong == 0 ? run + " runs are as due" : "an answer is not as due");
        if (wrong != 0) {
            System.exit(1);
        }
    }

    private static void compare(int run, int space, int[] weights, int[] sizes) {
        Random random = new Random(run);
        ChunkShelf shelf = new ChunkShelf();
        Model model = new Model();
        StringBuilder story = new StringBuilder();
        for (int i = 0; i < CALLS && wrong == 0; i++) {
            String name = i == 0 ? "space" : CALL_NAMES[pick(random, weights)];
            int a = i == 0 ? space : argument(random, name, model, sizes);
            int b = random.nextInt(20) == 0 ? -1 - random.nextInt(3) : random.nextInt(4);
            int want = ofModel(model, name, a, b);
            int got = Calls.answer(shelf, name, a, b);
            story.append(name).append('(').append(a).append(", ").append(b).append(") ").append(got).append('\n');
            if (got != want) {
                wrong++;
                System.out.println("run " + run + ":\n" + story + "due is " + want);
            }
        }
    }

    private static int pick(Random random, int[] weights) {
        int sum = 0;
        for (int weight : weights) {
            sum += weight;
        }
        int left = random.nextInt(sum);
        int i = 0;
        while (left >= weights[i]) {
            left -= weights[i];
            i++;
        }
        return i;
    }

    private static int argument(Random random, String name, Model model, int[] sizes) {
        boolean odd = random.nextInt(20) == 0;
        int[] some = model.pieces.get(random.nextInt(model.pieces.size()));
        switch (name) {
            case "space":
                return odd ? 14 + random.nextInt(4) : SPACES[random.nextInt(SPACES.length)];
            case "take":
            case "suffices":
                return odd ? random.nextInt(5100) - 20 : sizes[0] + random.nextInt(sizes[1] - sizes[0] + 1);
            case "give":
                return odd ? random.nextInt(model.cells + 20) - 10 : model.anyBegin(random, false);
            case "join":
                return odd ? random.nextInt(model.cells + 20) - 10 : model.anyBegin(random, true);
            case "free":
                return odd ? random.nextInt(80) - 5 : some[Model.SIZE];
            case "count":
                return odd ? random.nextInt(30) - 10 : random.nextInt(8);
            default:
                return odd ? random.nextInt(model.cells + 20) - 10
                    : some[Model.AT] + random.nextInt(some[Model.SIZE]) * random.nextInt(2);
        }
    }

    private static int ofModel(Model m, String name, int a, int b) {
        switch (name) {
            case "space": return m.space(a);
            case "take": return m.take(a);
            case "give": return m.give(a);
            case "join": return m.join(a);
            case "joinAll": return m.joinAll();
            case "suffices": return m.suffices(a);
            case "piece": return m.piece(a);
            case "cover": return m.cover(a);
            case "free": return m.free(a, b);
            case "count": return m.count(a);
            default: return 0;
        }
    }

    /** Pieces by address, each with the time at which it came to be free, or 0 if it is used. */
    private static final class Model {
        static final int AT = 0;
        static final int SIZE = 1;
        static final int SINCE = 2;
        final List<int[]> pieces = new ArrayList<>();
        int cells;
        int now;
        int misses;

        Model() {
            start(1024);
        }

        void start(int n) {
            pieces.clear();
            cells = n;
            misses = 0;
            pieces.add(new int[] {1, n, ++now});
        }

        int anyBegin(Random random, boolean free) {
            int found = random.nextInt(cells) + 1;
            int seen = 0;
            for (int[] p : pieces) {
                if (p[SINCE] > 0 == free && random.nextInt(++seen) == 0) {
                    found = p[AT];
                }
            }
            return found;
        }

        int space(int n) {
            if (n < 16 || n > 16384) {
                return ILLEGAL;
            }
            int before = cells;
            start(n);
            return before;
        }

        int best(int size) {
            int best = -1;
            for (int i = 0; i < pieces.size(); i++) {
                int[] p = pieces.get(i);
                if (p[SINCE] == 0 || p[SIZE] < 3 || p[SIZE] < size) {
                    continue;
                }
                int[] q = best < 0 ? null : pieces.get(best);
                if (q == null || p[SIZE] < q[SIZE] || p[SIZE] == q[SIZE] && p[SINCE] > q[SINCE]) {
                    best = i;
                }
            }
            return best;
        }

        int suffices(int size) {
            if (size < 3 || size > 5000) {
                return ILLEGAL;
            }
            int best = best(size);
            return best < 0 ? 0 : pieces.get(best)[AT];
        }

        int take(int size) {
            int at = suffices(size);
            if (at == 0) {
                misses++;
            }
            if (at <= 0) {
                return at;
            }
            int i = best(size);
            int[] p = pieces.get(i);
            if (p[SIZE] > size) {
                pieces.add(i + 1, new int[] {at + size, p[SIZE] - size, ++now});
            }
            p[SIZE] = size;
            p[SINCE] = 0;
            return at;
        }

        int indexAt(int a, boolean free) {
            for (int i = 0; i < pieces.size(); i++) {
                if (pieces.get(i)[AT] == a && pieces.get(i)[SINCE] > 0 == free) {
                    return i;
                }
            }
            return -1;
        }

        int give(int a) {
            int i = indexAt(a, false);
            if (i < 0) {
                return NO_SUCH;
            }
            pieces.get(i)[SINCE] = ++now;
            return pieces.get(i)[SIZE];
        }

        int join(int a) {
            int i = indexAt(a, true);
            if (i < 0) {
                return NO_SUCH;
            }
            int[] p = pieces.get(i);
            while (i + 1 < pieces.size() && pieces.get(i + 1)[SINCE] > 0) {
                p[SIZE] += pieces.remove(i + 1)[SIZE];
                p[SINCE] = ++now;
            }
            return p[SIZE];
        }

        int joinAll() {
            int before = pieces.size();
            for (int i = 0; i < pieces.size(); i++) {
                join(pieces.get(i)[AT]);
            }
            return before - pieces.size();
        }

        int piece(int a) {
            for (int[] p : pieces) {
                if (p[AT] == a) {
                    return p[SINCE] > 0 ? -p[SIZE] : p[SIZE];
                }
            }
            return 0;
        }

        int cover(int a) {
            for (int[] p : pieces) {
                if (p[AT] <= a && a < p[AT] + p[SIZE]) {
                    return p[AT];
                }
            }
            return 0;
        }

        int free(int size, int k) {
            if (k < 0) {
                return ILLEGAL;
            }
            List<int[]> same = new ArrayList<>();
            for (int[] p : pieces) {
                if (p[SINCE] > 0 && p[SIZE] == size && size > 2) {
                    same.add(p);
                }
            }
            same.sort((p, q) -> q[SINCE] - p[SINCE]);
            return k < same.size() ? same.get(k)[AT] : 0;
        }

        int count(int what) {
            int[] sums = {0, 0, 0, 0, 0, 0, misses, cells};
            for (int[] p : pieces) {
                boolean free = p[SINCE] > 0;
                boolean crumb = free && p[SIZE] <= 2;
                sums[0] += free ? p[SIZE] : 0;
                sums[1] += crumb ? p[SIZE] : 0;
                sums[2] += free ? 0 : 1;
                sums[3] += free && !crumb ? 1 : 0;
                sums[4] += crumb ? 1 : 0;
                sums[5] = free ? Math.max(sums[5], p[SIZE]) : sums[5];
            }
            return what < 0 || what > 7 ? ILLEGAL : sums[what];
        }
    }
}
