/** Each promise of the document by hand: ordinary inputs, named edges, wrong inputs. */
public final class PromiseTest {
    private static final int ILLEGAL = Calls.ILLEGAL;
    private static final int NO_SUCH = Calls.NO_SUCH;
    private static int wrong = 0;
    private static String part = "";

    public static void main(String[] args) {
        newObject();
        space();
        spaceRefuses();
        take();
        takePrefersSmallestThenLatest();
        takeOverTheTreesEdge();
        takeNeverTakesCrumbs();
        takeRefuses();
        give();
        giveRefuses();
        join();
        joinOfCrumbs();
        joinWithoutFreeBehindKeepsTheTime();
        joinRefuses();
        joinAll();
        joinAllFreesTheHighestLatest();
        suffices();
        sufficesRefuses();
        piece();
        cover();
        free();
        freeRefuses();
        count();
        countRefuses();
        faults();
        System.out.println(wrong == 0 ? "all answers are as due" : wrong + " answers are not as due");
        if (wrong != 0) {
            System.exit(1);
        }
    }

    private static void newObject() {
        part = "promise 1";
        ChunkShelf x = new ChunkShelf();
        due(x, "count 7", 1024);
        due(x, "count 0", 1024);
        due(x, "count 1", 0);
        due(x, "count 2", 0);
        due(x, "count 3", 1);
        due(x, "count 4", 0);
        due(x, "count 5", 1024);
        due(x, "count 6", 0);
        due(x, "piece 1", -1024);
        due(x, "free 1024 0", 1);
        due(x, "free 1024 1", 0);
        due(x, "faults", 0);
    }

    private static void space() {
        part = "promise 2";
        ChunkShelf x = new ChunkShelf();
        due(x, "take 100", 1);
        due(x, "take 5000", 0);
        due(x, "space 16384", 1024);
        due(x, "count 6", 0);
        due(x, "count 2", 0);
        due(x, "piece 1", -16384);
        due(x, "piece 101", 0);
        due(x, "free 924 0", 0);
        due(x, "take 60", 1);
        due(x, "take 3", 61);
        due(x, "give 1", 60);
        due(x, "space 16", 16384);
        due(x, "free 60 0", 0);
        due(x, "suffices 17", 0);
        due(x, "suffices 16", 1);
        due(x, "space 16", 16);
        due(x, "count 7", 16);
        due(x, "faults", 0);
        due(x, "space 63", 16);
        due(x, "space 64", 63);
        due(x, "free 63 0", 0);
        due(x, "free 64 0", 1);
    }

    private static void spaceRefuses() {
        part = "promise 2, refusals";
        ChunkShelf x = new ChunkShelf();
        due(x, "take 5000", 0);
        due(x, "take 10", 1);
        for (int n : new int[] {15, 0, -1, -16, 16385, Integer.MAX_VALUE, Integer.MIN_VALUE}) {
            due(x, "space " + n, ILLEGAL);
        }
        due(x, "count 7", 1024);
        due(x, "count 6", 1);
        due(x, "piece 1", 10);
    }

    private static void take() {
        part = "promise 3";
        ChunkShelf x = new ChunkShelf();
        due(x, "space 16384", 1024);
        due(x, "take 5000", 1);
        due(x, "take 3", 5001);
        due(x, "take 5000", 5004);
        due(x, "take 5000", 10004);
        due(x, "take 1382", 0);
        due(x, "count 6", 1);
        due(x, "take 1381", 15004);
        due(x, "count 0", 0);
        due(x, "take 3", 0);
        due(x, "count 6", 2);
        due(x, "piece 15004", 1381);
        due(x, "faults", 0);
    }

    private static void takePrefersSmallestThenLatest() {
        part = "promise 3, the smallest, then the latest";
        ChunkShelf x = new ChunkShelf();
        due(x, "take 20", 1);
        due(x, "take 3", 21);
        due(x, "take 10", 24);
        due(x, "take 3", 34);
        due(x, "take 10", 37);
        due(x, "take 3", 47);
        due(x, "give 37", 10);
        due(x, "give 24", 10);
        due(x, "give 1", 20);
        due(x, "take 9", 24);
        due(x, "piece 33", -1);
        due(x, "take 10", 37);
        due(x, "take 4", 1);
        due(x, "take 16", 5);
        due(x, "take 3", 50);
        due(x, "faults", 0);
    }

    private static void takeOverTheTreesEdge() {
        part = "promise 3, sizes about 64";
        ChunkShelf x = new ChunkShelf();
        int at = 1;
        for (int size = 62; size <= 66; size++) {
            due(x, "take " + size, at);
            due(x, "take 3", at + size);
            at += size + 3;
        }
        due(x, "give 199", 65);
        due(x, "give 1", 62);
        due(x, "give 267", 66);
        due(x, "give 66", 63);
        due(x, "give 132", 64);
        due(x, "suffices 3", 1);
        due(x, "suffices 63", 66);
        due(x, "suffices 64", 132);
        due(x, "suffices 65", 199);
        due(x, "suffices 66", 267);
    }

    private static void takeNeverTakesCrumbs() {
        part = "promise 3, crumbs";
        ChunkShelf x = new ChunkShelf();
        due(x, "space 20", 1024);
        due(x, "take 15", 1);
        due(x, "take 3", 16);
        due(x, "piece 19", -2);
        due(x, "take 3", 0);
        due(x, "count 6", 1);
        due(x, "give 16", 3);
        due(x, "take 4", 0);
        due(x, "take 3", 16);
    }

    private static void takeRefuses() {
        part = "promise 3, refusals";
        ChunkShelf x = new ChunkShelf();
        for (int size : new int[] {2, 1, 0, -1, -3, 5001, Integer.MAX_VALUE, Integer.MIN_VALUE}) {
            due(x, "take " + size, ILLEGAL);
        }
        due(x, "count 6", 0);
        due(x, "piece 1", -1024);
    }

    private static void give() {
        part = "promise 4";
        ChunkShelf x = new ChunkShelf();
        due(x, "take 10", 1);
        due(x, "take 10", 11);
        due(x, "give 1", 10);
        due(x, "piece 1", -10);
        due(x, "give 11", 10);
        due(x, "piece 11", -10);
        due(x, "piece 1", -10);
        due(x, "free 10 0", 11);
        due(x, "free 10 1", 1);
        due(x, "count 2", 0);
        due(x, "faults", 0);
    }

    private static void giveRefuses() {
        part = "promise 4, refusals";
        ChunkShelf x = new ChunkShelf();
        due(x, "take 10", 1);
        due(x, "take 10", 11);
        due(x, "give 1", 10);
        for (int a : new int[] {1, 2, 0, -1, 12, 21, 1024, 1025, Integer.MAX_VALUE, Integer.MIN_VALUE}) {
            due(x, "give " + a, NO_SUCH);
        }
        due(x, "piece 11", 10);
        due(x, "count 0", 1014);
    }

    private static void join() {
        part = "promise 5";
        ChunkShelf x = new ChunkShelf();
        for (int i = 0; i < 6; i++) {
            due(x, "take 10", 1 + 10 * i);
        }
        due(x, "give 1", 10);
        due(x, "give 11", 10);
        due(x, "give 21", 10);
        due(x, "give 31", 10);
        due(x, "join 11", 30);
        due(x, "piece 1", -10);
        due(x, "piece 11", -30);
        due(x, "piece 21", 0);
        due(x, "piece 31", 0);
        due(x, "free 10 0", 1);
        due(x, "free 10 1", 0);
        due(x, "free 30 0", 11);
        due(x, "faults", 0);
        due(x, "join 1", 40);
        due(x, "give 51", 10);
        due(x, "join 51", 974);
        due(x, "join 51", 974);
        due(x, "count 3", 2);
        due(x, "faults", 0);
    }

    private static void joinOfCrumbs() {
        part = "promise 5, crumbs";
        ChunkShelf x = new ChunkShelf();
        due(x, "space 16", 1024);
        due(x, "take 5", 1);
        due(x, "take 10", 6);
        due(x, "piece 16", -1);
        due(x, "join 16", 1);
        due(x, "give 6", 10);
        due(x, "take 8", 6);
        due(x, "piece 14", -2);
        due(x, "count 4", 2);
        due(x, "count 3", 0);
        due(x, "take 3", 0);
        due(x, "join 14", 3);
        due(x, "count 4", 0);
        due(x, "free 3 0", 14);
        due(x, "take 3", 14);
        due(x, "space 16", 16);
        due(x, "take 15", 1);
        due(x, "give 1", 15);
        due(x, "take 14", 1);
        due(x, "join 15", 2);
        due(x, "count 4", 1);
        due(x, "free 2 0", 0);
        due(x, "faults", 0);
    }

    private static void joinWithoutFreeBehindKeepsTheTime() {
        part = "promise 5, nothing changes";
        ChunkShelf x = new ChunkShelf();
        due(x, "space 16", 1024);
        due(x, "take 5", 1);
        due(x, "take 6", 6);
        due(x, "take 5", 12);
        due(x, "give 1", 5);
        due(x, "give 12", 5);
        due(x, "join 1", 5);
        due(x, "free 5 0", 12);
        due(x, "give 6", 6);
        due(x, "take 6", 6);
        due(x, "take 5", 12);
        due(x, "give 12", 5);
        due(x, "take 5", 12);
        due(x, "take 5", 1);
        due(x, "give 12", 5);
        due(x, "give 1", 5);
        due(x, "join 12", 5);
        due(x, "free 5 0", 1);
    }

    private static void joinRefuses() {
        part = "promise 5, refusals";
        ChunkShelf x = new ChunkShelf();
        due(x, "take 10", 1);
        due(x, "take 10", 11);
        due(x, "give 11", 10);
        for (int a : new int[] {1, 2, 0, -1, 12, 22, 1024, 1025, Integer.MAX_VALUE, Integer.MIN_VALUE}) {
            due(x, "join " + a, NO_SUCH);
        }
        due(x, "count 3", 2);
    }

    private static void joinAll() {
        part = "promise 6";
        ChunkShelf x = new ChunkShelf();
        due(x, "joinAll", 0);
        for (int i = 0; i < 8; i++) {
            due(x, "take 10", 1 + 10 * i);
        }
        for (int a : new int[] {1, 11, 31, 51, 61, 71}) {
            due(x, "give " + a, 10);
        }
        due(x, "joinAll", 4);
        due(x, "piece 1", -20);
        due(x, "piece 31", -10);
        due(x, "piece 51", -974);
        due(x, "count 3", 3);
        due(x, "joinAll", 0);
        due(x, "give 21", 10);
        due(x, "give 41", 10);
        due(x, "joinAll", 4);
        due(x, "piece 1", -1024);
        due(x, "faults", 0);
    }

    private static void joinAllFreesTheHighestLatest() {
        part = "promise 6, the order";
        ChunkShelf x = new ChunkShelf();
        for (int i = 0; i < 10; i++) {
            due(x, "take 10", 1 + 10 * i);
        }
        due(x, "take 20", 101);
        due(x, "take 3", 121);
        for (int a : new int[] {81, 71, 51, 41, 21, 11, 101}) {
            due(x, "give " + a, a == 101 ? 20 : 10);
        }
        due(x, "free 20 0", 101);
        due(x, "joinAll", 3);
        due(x, "free 20 0", 71);
        due(x, "free 20 1", 41);
        due(x, "free 20 2", 11);
        due(x, "free 20 3", 101);
        due(x, "free 20 4", 0);
        due(x, "faults", 0);
    }

    private static void suffices() {
        part = "promise 7";
        ChunkShelf x = new ChunkShelf();
        due(x, "suffices 3", 1);
        due(x, "suffices 1024", 1);
        due(x, "suffices 1025", 0);
        due(x, "suffices 5000", 0);
        due(x, "count 6", 0);
        due(x, "piece 1", -1024);
        due(x, "take 500", 1);
        due(x, "take 520", 501);
        due(x, "give 1", 500);
        due(x, "suffices 3", 1021);
        due(x, "suffices 5", 1);
    }

    private static void sufficesRefuses() {
        part = "promise 7, refusals";
        ChunkShelf x = new ChunkShelf();
        for (int size : new int[] {2, 1, 0, -1, 5001, Integer.MAX_VALUE, Integer.MIN_VALUE}) {
            due(x, "suffices " + size, ILLEGAL);
        }
        due(x, "count 6", 0);
    }

    private static void piece() {
        part = "promise 8";
        ChunkShelf x = new ChunkShelf();
        due(x, "take 1023", 1);
        due(x, "piece 1", 1023);
        due(x, "piece 1024", -1);
        for (int a : new int[] {0, -1, 2, 1023, 1025, Integer.MAX_VALUE, Integer.MIN_VALUE}) {
            due(x, "piece " + a, 0);
        }
        due(x, "space 16", 1024);
        due(x, "piece 1024", 0);
    }

    private static void cover() {
        part = "promise 9";
        ChunkShelf x = new ChunkShelf();
        due(x, "take 10", 1);
        due(x, "take 10", 11);
        due(x, "cover 1", 1);
        due(x, "cover 10", 1);
        due(x, "cover 11", 11);
        due(x, "cover 20", 11);
        due(x, "cover 21", 21);
        due(x, "cover 1024", 21);
        for (int a : new int[] {0, -1, 1025, Integer.MAX_VALUE, Integer.MIN_VALUE}) {
            due(x, "cover " + a, 0);
        }
        due(x, "space 16", 1024);
        due(x, "cover 16", 1);
        due(x, "cover 17", 0);
    }

    private static void free() {
        part = "promise 10";
        ChunkShelf x = new ChunkShelf();
        for (int i = 0; i < 4; i++) {
            due(x, "take 100", 1 + 103 * i);
            due(x, "take 3", 101 + 103 * i);
        }
        for (int a : new int[] {207, 1, 310, 104}) {
            due(x, "give " + a, 100);
        }
        due(x, "free 100 0", 104);
        due(x, "free 100 1", 310);
        due(x, "free 100 2", 1);
        due(x, "free 100 3", 207);
        due(x, "free 100 4", 0);
        due(x, "free 100 " + Integer.MAX_VALUE, 0);
        due(x, "free 99 0", 0);
        due(x, "free 3 0", 0);
        due(x, "free 0 0", 0);
        due(x, "free -100 0", 0);
        due(x, "free " + Integer.MAX_VALUE + " 0", 0);
        due(x, "free " + Integer.MIN_VALUE + " 0", 0);
        due(x, "take 99", 104);
        due(x, "free 100 0", 310);
        due(x, "free 1 0", 0);
        due(x, "take 98", 310);
        due(x, "free 2 0", 0);
    }

    private static void freeRefuses() {
        part = "promise 10, refusals";
        ChunkShelf x = new ChunkShelf();
        due(x, "free 1024 -1", ILLEGAL);
        due(x, "free 1 -1", ILLEGAL);
        due(x, "free 0 -1", ILLEGAL);
        due(x, "free -5 " + Integer.MIN_VALUE, ILLEGAL);
        due(x, "free 1024 0", 1);
    }

    private static void count() {
        part = "promise 11";
        ChunkShelf x = new ChunkShelf();
        due(x, "space 40", 1024);
        due(x, "take 10", 1);
        due(x, "take 10", 11);
        due(x, "take 19", 21);
        due(x, "give 11", 10);
        due(x, "take 8", 11);
        due(x, "give 1", 10);
        due(x, "take 20", 0);
        due(x, "take 11", 0);
        due(x, "count 0", 13);
        due(x, "count 1", 3);
        due(x, "count 2", 2);
        due(x, "count 3", 1);
        due(x, "count 4", 2);
        due(x, "count 5", 10);
        due(x, "count 6", 2);
        due(x, "count 7", 40);
        due(x, "take 10", 1);
        due(x, "count 0", 3);
        due(x, "count 3", 0);
        due(x, "count 5", 2);
        due(x, "space 40", 40);
        due(x, "count 6", 0);
        due(x, "take 40", 1);
        due(x, "count 5", 0);
        due(x, "count 0", 0);
    }

    private static void countRefuses() {
        part = "promise 11, refusals";
        ChunkShelf x = new ChunkShelf();
        for (int what : new int[] {-1, 8, 100, Integer.MAX_VALUE, Integer.MIN_VALUE}) {
            due(x, "count " + what, ILLEGAL);
        }
        due(x, "count 7", 1024);
    }

    private static void faults() {
        part = "promise 12";
        ChunkShelf x = new ChunkShelf();
        due(x, "space 16384", 1024);
        int at = 1;
        for (int size = 60; size < 120; size++) {
            due(x, "take " + size, at);
            due(x, "take 3", at + size);
            at += size + 3;
        }
        for (int i = 0, a = 1; i < 60; a += 63 + i, i++) {
            if (i % 2 == 0) {
                due(x, "give " + a, 60 + i);
            }
            due(x, "faults", 0);
        }
        due(x, "joinAll", 0);
        due(x, "faults", 0);
    }

    private static void due(ChunkShelf x, String call, int want) {
        int got = Calls.answer(x, call);
        if (got != want) {
            wrong++;
            System.out.println(part + ": " + call + " answered " + Calls.name(got) + ", due is " + Calls.name(want));
        }
    }
}
