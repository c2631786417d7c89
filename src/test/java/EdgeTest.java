/**
 * One test for each boundary that a sentence of the document names, on an object of its own:
 * the promise's number (none for the document's terms), the sentence, the case behind a colon,
 * and the calls with the answers that are due, "take 3 = 1".
 */
public final class EdgeTest {
    private static int edges = 0;
    private static int broken = 0;

    public static void main(String[] args) {
        addresses();
        crumbs();
        times();
        whatSuffices();
        theSmallest();
        theSmallestThatIsLeft();
        theLatest();
        theCut();
        newObject();
        space();
        spaceLetsAllGo();
        take();
        give();
        join();
        joinComesToBeFreeNow();
        joinOfCrumbs();
        joinOverTheTreesEdge();
        joinAll();
        joinAllLeavesOrJoins();
        suffices();
        piece();
        cover();
        free();
        freeCountsFreeOnesAlone();
        count();
        countOfMisses();
        faults();
        callsInAll();
        System.out.println(broken == 0 ? edges + " edges hold" : broken + " of " + edges + " edges do not hold");
        if (broken != 0) {
            System.exit(1);
        }
    }

    private static void addresses() {
        edge("Addresses 1 .. n: below the first", "cover 0 = 0", "piece 0 = 0",
            "give 0 = NoSuchElement", "join 0 = NoSuchElement");
        edge("Addresses 1 .. n: the first", "cover 1 = 1", "piece 1 = -1024", "join 1 = 1024");
        edge("Addresses 1 .. n: the last", "take 1023 = 1", "cover 1024 = 1024", "piece 1024 = -1");
        edge("Addresses 1 .. n: behind the last", "cover 1025 = 0", "piece 1025 = 0",
            "give 1025 = NoSuchElement", "join 1025 = NoSuchElement");
        edge("Pieces tile the cells: each begins where the one before it ends", "space 16 = 1024",
            "take 4 = 1", "take 5 = 5", "take 3 = 10", "give 5 = 5",
            "piece 1 = 4", "piece 5 = -5", "piece 10 = 3", "piece 13 = -4",
            "cover 4 = 1", "cover 9 = 5", "cover 12 = 10", "cover 16 = 13");
    }

    private static void crumbs() {
        edge("Free pieces of one or two cells are crumbs: one", "space 16 = 1024", "take 15 = 1",
            "count 4 = 1", "count 1 = 1", "count 3 = 0", "free 1 0 = 0");
        edge("Free pieces of one or two cells are crumbs: two", "space 16 = 1024", "take 14 = 1",
            "count 4 = 1", "count 1 = 2", "count 3 = 0", "free 2 0 = 0");
        edge("Free pieces of one or two cells are crumbs: three are none", "space 16 = 1024", "take 13 = 1",
            "count 4 = 0", "count 1 = 0", "count 3 = 1", "free 3 0 = 14");
    }

    private static void times() {
        edge("Came to be free, as it is: anew by each give()", "space 16 = 1024",
            "take 4 = 1", "take 4 = 5", "take 4 = 9", "take 4 = 13", "give 1 = 4", "give 9 = 4",
            "take 4 = 9", "take 4 = 1", "give 9 = 4", "give 1 = 4", "free 4 0 = 1", "free 4 1 = 9");
        edge("Came to be free, as it is: a piece keeps its time while others change", "space 40 = 1024",
            "take 5 = 1", "take 3 = 6", "take 5 = 9", "take 3 = 14", "take 6 = 17", "take 3 = 23",
            "give 9 = 5", "give 1 = 5", "give 17 = 6", "take 6 = 17", "give 6 = 3", "take 3 = 6",
            "free 5 0 = 1", "free 5 1 = 9");
        edge("Came to be free, as it is: what is left of a piece came to be free with the cut", "space 30 = 1024",
            "take 5 = 1", "take 3 = 6", "give 1 = 5", "take 17 = 9", "free 5 0 = 26", "free 5 1 = 1");
    }

    private static void whatSuffices() {
        edge("Pieces that are no crumbs: one crumb", "space 16 = 1024", "take 14 = 1", "take 3 = 0", "suffices 3 = 0");
        edge("Pieces that are no crumbs: several crumbs side by side", "space 16 = 1024", "take 5 = 1",
            "take 9 = 6", "give 6 = 9", "take 7 = 6", "piece 13 = -2", "piece 15 = -2",
            "take 3 = 0", "take 4 = 0");
        edge("At least so many cells: just so many in a row", "space 16 = 1024", "take 16 = 1");
        edge("At least so many cells: one too few in a row", "space 16 = 1024", "take 17 = 0");
        edge("At least so many cells: just so many in the tree", "space 100 = 1024", "take 100 = 1");
        edge("At least so many cells: one too few in the tree", "space 100 = 1024", "take 101 = 0");
        edge("At least so many cells: 63, 64 and 65 of 64", "space 64 = 1024",
            "suffices 63 = 1", "suffices 64 = 1", "suffices 65 = 0");
        edge("At least so many cells: 62, 63 and 64 of 63", "space 63 = 1024",
            "suffices 62 = 1", "suffices 63 = 1", "suffices 64 = 0");
    }

    private static void theSmallest() {
        edge("The smallest: in the rows, whatever is latest", "space 40 = 1024",
            "take 5 = 1", "take 3 = 6", "take 4 = 9", "take 3 = 13", "take 6 = 16", "take 3 = 22",
            "give 9 = 4", "give 1 = 5", "give 16 = 6",
            "suffices 5 = 1", "suffices 6 = 16", "suffices 7 = 25", "take 3 = 9");
        edge("The smallest: in the tree, whatever is latest", "space 400 = 1024",
            "take 80 = 1", "take 3 = 81", "take 70 = 84", "take 3 = 154", "take 90 = 157", "take 3 = 247",
            "give 1 = 80", "give 84 = 70", "give 157 = 90",
            "suffices 64 = 84", "suffices 70 = 84", "suffices 71 = 1", "suffices 80 = 1", "suffices 81 = 157",
            "suffices 90 = 157", "suffices 91 = 250", "suffices 151 = 250", "suffices 152 = 0");
        edge("The smallest: the greatest row before the tree", "space 200 = 1024",
            "take 63 = 1", "take 3 = 64", "take 64 = 67", "take 3 = 131",
            "give 1 = 63", "give 67 = 64", "suffices 64 = 67", "take 3 = 1");
        edge("The smallest: the tree where no row suffices", "space 200 = 1024",
            "take 63 = 1", "take 3 = 64", "take 64 = 67", "take 3 = 131",
            "give 67 = 64", "give 1 = 63", "suffices 63 = 1", "take 64 = 67");
    }

    /** A size that none has any more must not stand in the way of the next greater one. */
    private static void theSmallestThatIsLeft() {
        edge("The smallest: the only one of 64 cells is used", "space 300 = 1024",
            "take 64 = 1", "take 3 = 65", "give 1 = 64", "take 64 = 1", "take 3 = 68", "take 64 = 71");
        edge("The smallest: the only one of 63 cells is used", "space 300 = 1024",
            "take 63 = 1", "take 3 = 64", "give 1 = 63", "take 63 = 1", "take 3 = 67", "take 63 = 70");
        edge("The smallest: the only one of 3 cells is used", "space 30 = 1024",
            "take 3 = 1", "take 3 = 4", "give 1 = 3", "take 3 = 1", "take 3 = 7");
        edge("The smallest: one of the two of 64 cells is used", "space 300 = 1024",
            "take 64 = 1", "take 3 = 65", "take 64 = 68", "take 3 = 132", "give 1 = 64", "give 68 = 64",
            "take 64 = 68", "take 64 = 1", "take 64 = 135");
    }

    private static void theLatest() {
        edge("Of several, the latest: in a row", "space 16 = 1024",
            "take 4 = 1", "take 4 = 5", "take 4 = 9", "take 4 = 13", "give 5 = 4", "give 13 = 4", "give 1 = 4",
            "take 4 = 1", "take 4 = 13", "take 4 = 5", "take 4 = 0");
        edge("Of several, the latest: in the tree", "space 280 = 1024",
            "take 70 = 1", "take 70 = 71", "take 70 = 141", "take 70 = 211",
            "give 71 = 70", "give 211 = 70", "give 1 = 70",
            "take 70 = 1", "take 70 = 211", "take 70 = 71", "take 70 = 0");
        edge("Of several, the latest: also where it is cut", "space 16 = 1024",
            "take 5 = 1", "take 3 = 6", "take 5 = 9", "take 3 = 14", "give 9 = 5", "give 1 = 5",
            "take 4 = 1", "take 4 = 9");
    }

    private static void theCut() {
        edge("If it has more cells, it is cut: it has not", "space 16 = 1024", "take 16 = 1",
            "piece 1 = 16", "piece 17 = 0", "count 2 = 1", "count 3 = 0", "count 4 = 0", "count 0 = 0");
        edge("If it has more cells, it is cut: one more", "space 16 = 1024", "take 15 = 1",
            "piece 1 = 15", "piece 16 = -1", "count 2 = 1");
        edge("If it has more cells, it is cut: three more", "space 16 = 1024", "take 13 = 1",
            "piece 1 = 13", "piece 14 = -3", "take 3 = 14");
        edge("The lower part is used", "space 100 = 1024", "take 40 = 1", "piece 1 = 40", "piece 41 = -60");
        edge("The rest comes to be free: latest of its row", "space 30 = 1024",
            "take 5 = 1", "take 3 = 6", "give 1 = 5", "take 17 = 9", "take 5 = 26", "take 5 = 1");
        edge("The rest comes to be free: latest of its size in the tree", "space 300 = 1024",
            "take 70 = 1", "take 3 = 71", "give 1 = 70", "take 157 = 74",
            "free 70 0 = 231", "free 70 1 = 1", "take 70 = 231", "take 70 = 1");
        edge("The rest comes to be free: from the tree into a row", "space 67 = 1024",
            "take 3 = 1", "free 64 0 = 4", "take 3 = 4", "free 64 0 = 0", "free 61 0 = 7");
    }

    private static void newObject() {
        edge("1: 1024 cells", "count 7 = 1024", "count 0 = 1024", "cover 1024 = 1", "cover 1025 = 0");
        edge("1: one free piece", "piece 1 = -1024", "count 2 = 0", "count 3 = 1", "count 4 = 0");
        edge("1: one free piece, as great as all", "take 1024 = 1", "count 0 = 0");
        edge("1: no take() has found none yet", "count 6 = 0");
        edge("1: an object knows nothing of another", "take 1024 = 1", "take 3 = 0");
        edge("1: an object knows nothing of another, again", "count 2 = 0", "count 6 = 0", "take 3 = 1");
    }

    private static void space() {
        edge("2: n is not 16 .. 16384: 15", "space 15 = IllegalArgument");
        edge("2: n is not 16 .. 16384: 16 is", "space 16 = 1024", "count 7 = 16", "piece 1 = -16");
        edge("2: n is not 16 .. 16384: 16384 is", "space 16384 = 1024", "count 7 = 16384", "piece 1 = -16384");
        edge("2: n is not 16 .. 16384: 16385", "space 16385 = IllegalArgument");
        edge("2: n is not 16 .. 16384: 0 and below", "space 0 = IllegalArgument", "space -1 = IllegalArgument",
            "space -16 = IllegalArgument", "space -16384 = IllegalArgument");
        edge("2: n is not 16 .. 16384: the ends of int", "space MIN = IllegalArgument", "space MAX = IllegalArgument");
        edge("2: how many cells there were", "space 20 = 1024", "space 16384 = 20", "space 16 = 16384");
        edge("2: how many cells there were: as many as now", "space 1024 = 1024", "space 1024 = 1024");
        edge("2: how many cells there were: a refused n is not among them",
            "space 20 = 1024", "space 15 = IllegalArgument", "space 30 = 20");
    }

    private static void spaceLetsAllGo() {
        edge("2: one free piece: in a row", "space 63 = 1024", "free 63 0 = 1", "free 63 1 = 0", "count 3 = 1");
        edge("2: one free piece: in the tree", "space 64 = 1024", "free 64 0 = 1", "free 64 1 = 0", "count 3 = 1");
        edge("2: all that was goes: used pieces", "take 1024 = 1", "space 1024 = 1024",
            "count 2 = 0", "piece 1 = -1024", "give 1 = NoSuchElement");
        edge("2: all that was goes: pieces in rows", "take 5 = 1", "take 3 = 6", "give 1 = 5",
            "space 1024 = 1024", "free 5 0 = 0", "piece 6 = 0", "suffices 5 = 1", "take 5 = 1");
        edge("2: all that was goes: pieces of 3 cells", "take 3 = 1", "take 4 = 4", "give 1 = 3",
            "space 1024 = 1024", "free 3 0 = 0", "take 1024 = 1", "take 3 = 0");
        edge("2: all that was goes: pieces of 63 and 64 cells", "take 63 = 1", "take 3 = 64", "take 64 = 67",
            "take 3 = 131",
            "give 1 = 63", "give 67 = 64", "space 16 = 1024", "free 63 0 = 0", "free 64 0 = 0", "take 17 = 0",
            "take 64 = 0");
        edge("2: all that was goes: pieces in the tree", "take 100 = 1", "take 3 = 101", "give 1 = 100",
            "space 2000 = 1024", "free 100 0 = 0", "free 921 0 = 0", "take 100 = 1", "free 1900 0 = 101");
        edge("2: all that was goes: crumbs", "take 1023 = 1", "space 16 = 1024", "count 4 = 0", "count 1 = 0");
        edge("2: all that was goes: takes that found none", "take 1025 = 0", "space 16 = 1024", "count 6 = 0");
        edge("2: all that was goes: the cells behind the new end", "space 16 = 1024",
            "cover 17 = 0", "cover 1024 = 0", "take 17 = 0");
        edge("2: all that was goes: with the same n too", "space 16 = 1024", "take 16 = 1", "take 3 = 0",
            "space 16 = 16", "count 2 = 0", "count 6 = 0", "take 16 = 1");
    }

    private static void take() {
        edge("3: size is not 3 .. 5000: 2", "take 2 = IllegalArgument");
        edge("3: size is not 3 .. 5000: 3 is", "take 3 = 1", "piece 1 = 3");
        edge("3: size is not 3 .. 5000: 5000 is", "space 5000 = 1024", "take 5000 = 1", "count 0 = 0");
        edge("3: size is not 3 .. 5000: 5001, though so many are free", "space 16384 = 1024",
            "take 5001 = IllegalArgument");
        edge("3: size is not 3 .. 5000: 1, 0 and below", "take 1 = IllegalArgument", "take 0 = IllegalArgument",
            "take -1 = IllegalArgument", "take -3 = IllegalArgument", "take -5000 = IllegalArgument");
        edge("3: size is not 3 .. 5000: the ends of int", "take MIN = IllegalArgument", "take MAX = IllegalArgument");
        edge("3: size is not 3 .. 5000: also where all is used", "space 16 = 1024", "take 16 = 1",
            "take 2 = IllegalArgument", "take 5001 = IllegalArgument", "count 6 = 0");
        edge("3: 0 if no free piece suffices: all is used", "space 16 = 1024", "take 16 = 1", "take 3 = 0");
        edge("3: 0 if no free piece suffices: more than there are cells", "take 1025 = 0", "take 5000 = 0");
        edge("3: 0 if no free piece suffices: only crumbs", "space 16 = 1024", "take 15 = 1", "take 3 = 0");
        edge("3: 0 if no free piece suffices: only two together would", "space 16 = 1024", "take 8 = 1", "take 8 = 9",
            "give 1 = 8", "give 9 = 8", "take 9 = 0", "take 8 = 9");
        edge("3: 0 if no free piece suffices: nothing is taken then", "space 16 = 1024", "take 10 = 1", "take 7 = 0",
            "piece 1 = 10", "piece 11 = -6", "free 6 0 = 11", "count 0 = 6", "count 2 = 1");
        edge("3: its address: up to the last cells", "space 16 = 1024", "take 13 = 1", "take 3 = 14", "cover 16 = 14");
        edge("3: its address: up to the last cells of the most", "space 16384 = 1024",
            "take 5000 = 1", "take 5000 = 5001", "take 5000 = 10001", "take 1381 = 15001", "take 3 = 16382",
            "piece 16382 = 3", "count 0 = 0");
    }

    private static void give() {
        edge("4: how many cells: the fewest", "take 3 = 1", "give 1 = 3");
        edge("4: how many cells: the most", "space 5000 = 1024", "take 5000 = 1", "give 1 = 5000", "piece 1 = -5000");
        edge("4: a used piece comes to be free: the highest", "space 16 = 1024", "take 13 = 1", "take 3 = 14",
            "give 14 = 3", "piece 14 = -3", "piece 1 = 13");
        edge("4: a used piece comes to be free: where all was used", "space 16 = 1024", "take 16 = 1",
            "give 1 = 16", "count 0 = 16", "count 2 = 0", "take 16 = 1");
        edge("4: a used piece comes to be free: neighbours stay as they are", "space 30 = 1024",
            "take 10 = 1", "take 10 = 11", "take 10 = 21", "give 1 = 10", "give 21 = 10", "give 11 = 10",
            "piece 1 = -10", "piece 11 = -10", "piece 21 = -10", "take 11 = 0");
        edge("4: a used piece comes to be free: latest of its size", "space 30 = 1024",
            "take 10 = 1", "take 10 = 11", "take 10 = 21", "give 21 = 10", "give 1 = 10", "give 11 = 10",
            "free 10 0 = 11", "free 10 1 = 1", "free 10 2 = 21");
        edge("4: no used piece begins at a: a free one does", "give 1 = NoSuchElement");
        edge("4: no used piece begins at a: it was given before", "take 3 = 1", "give 1 = 3", "give 1 = NoSuchElement");
        edge("4: no used piece begins at a: within a used one", "take 3 = 1",
            "give 2 = NoSuchElement", "give 3 = NoSuchElement", "give 1 = 3");
        edge("4: no used piece begins at a: within a free one", "give 2 = NoSuchElement", "give 1024 = NoSuchElement");
        edge("4: no used piece begins at a: a crumb", "space 16 = 1024", "take 15 = 1", "give 16 = NoSuchElement");
        edge("4: no used piece begins at a: no cell", "space 16 = 1024", "take 16 = 1", "give 0 = NoSuchElement",
            "give -1 = NoSuchElement", "give 17 = NoSuchElement", "give MIN = NoSuchElement",
            "give MAX = NoSuchElement");
        edge("4: no used piece begins at a: it went with space()", "take 3 = 1", "take 3 = 4", "space 16 = 1024",
            "give 4 = NoSuchElement");
    }

    private static void join() {
        edge("5: all free ones that follow it: up to a used one", "space 24 = 1024",
            "take 4 = 1", "take 4 = 5", "take 4 = 9", "take 4 = 13", "take 4 = 17", "take 4 = 21",
            "give 1 = 4", "give 5 = 4", "give 9 = 4", "give 17 = 4", "join 1 = 12",
            "piece 1 = -12", "piece 5 = 0", "piece 9 = 0", "piece 13 = 4", "piece 17 = -4", "cover 12 = 1");
        edge("5: all free ones that follow it: up to the end", "space 16 = 1024",
            "take 4 = 1", "take 4 = 5", "take 4 = 9", "give 5 = 4", "give 9 = 4", "join 5 = 12",
            "piece 5 = -12", "cover 16 = 5");
        edge("5: all free ones that follow it: not the one before it", "space 16 = 1024",
            "take 4 = 1", "take 4 = 5", "take 8 = 9", "give 1 = 4", "give 5 = 4", "give 9 = 8", "join 5 = 12",
            "piece 1 = -4", "piece 5 = -12", "join 1 = 16");
        edge("5: become one: all cells there are", "take 1021 = 1", "take 3 = 1022", "give 1 = 1021", "give 1022 = 3",
            "join 1 = 1024", "count 3 = 1", "take 1024 = 1");
        edge("5: become one: the most cells there are", "space 16384 = 1024", "take 5000 = 1", "give 1 = 5000",
            "join 1 = 16384", "free 16384 0 = 1", "free 5000 0 = 0", "free 11384 0 = 0");
        edge("5: no free piece begins at a: a used one does", "take 3 = 1", "join 1 = NoSuchElement");
        edge("5: no free piece begins at a: it was joined before", "take 3 = 1", "give 1 = 3", "join 1 = 1024",
            "join 4 = NoSuchElement", "join 1 = 1024");
        edge("5: no free piece begins at a: within a free one", "join 2 = NoSuchElement", "join 1024 = NoSuchElement");
        edge("5: no free piece begins at a: within a used one", "take 3 = 1",
            "join 2 = NoSuchElement", "join 3 = NoSuchElement", "join 4 = 1021");
        edge("5: no free piece begins at a: all is used", "space 16 = 1024", "take 16 = 1", "join 1 = NoSuchElement");
        edge("5: no free piece begins at a: no cell", "join 0 = NoSuchElement", "join -1 = NoSuchElement",
            "join 1025 = NoSuchElement", "join MIN = NoSuchElement", "join MAX = NoSuchElement");
    }

    private static void joinComesToBeFreeNow() {
        edge("5: which comes to be free now: in a row", "space 40 = 1024",
            "take 5 = 1", "take 5 = 6", "take 3 = 11", "take 10 = 14", "take 3 = 24",
            "give 1 = 5", "give 6 = 5", "give 14 = 10", "join 1 = 10", "free 10 0 = 1", "free 10 1 = 14",
            "free 5 0 = 0");
        edge("5: which comes to be free now: in the tree", "space 400 = 1024",
            "take 70 = 1", "take 70 = 71", "take 3 = 141", "take 140 = 144", "take 3 = 284",
            "give 1 = 70", "give 71 = 70", "give 144 = 140", "join 1 = 140",
            "free 140 0 = 1", "free 140 1 = 144", "free 70 0 = 0", "take 140 = 1", "take 140 = 144");
        edge("5: nothing changes if a used one is behind it: in a row", "space 16 = 1024",
            "take 5 = 1", "take 3 = 6", "take 5 = 9", "take 3 = 14", "give 1 = 5", "give 9 = 5",
            "join 1 = 5", "free 5 0 = 9", "free 5 1 = 1");
        edge("5: nothing changes if a used one is behind it: in the tree", "space 146 = 1024",
            "take 70 = 1", "take 3 = 71", "take 70 = 74", "take 3 = 144", "give 1 = 70", "give 74 = 70",
            "join 1 = 70", "free 70 0 = 74", "free 70 1 = 1");
        edge("5: nothing changes if the end is behind it: in a row", "space 16 = 1024",
            "take 3 = 1", "take 5 = 4", "take 3 = 9", "take 5 = 12", "give 12 = 5", "give 4 = 5",
            "join 12 = 5", "free 5 0 = 4", "free 5 1 = 12");
        edge("5: nothing changes if the end is behind it: in the tree", "space 146 = 1024",
            "take 3 = 1", "take 70 = 4", "take 3 = 74", "take 70 = 77", "give 77 = 70", "give 4 = 70",
            "join 77 = 70", "free 70 0 = 4", "free 70 1 = 77");
        edge("5: nothing changes if the end is behind it: one piece in all", "join 1 = 1024", "piece 1 = -1024",
            "free 1024 0 = 1");
    }

    private static void joinOfCrumbs() {
        edge("5: the free piece at a: a crumb before the end", "space 16 = 1024", "take 15 = 1",
            "join 16 = 1", "count 4 = 1", "count 1 = 1");
        edge("5: the free piece at a: a crumb before a used one", "space 16 = 1024", "take 5 = 1", "take 11 = 6",
            "give 1 = 5", "take 3 = 1", "join 4 = 2", "count 4 = 1", "count 1 = 2");
        edge("5: become one: two crumbs of one cell are a crumb", "space 16 = 1024",
            "take 15 = 1", "give 1 = 15", "take 14 = 1", "count 4 = 2", "join 15 = 2",
            "count 4 = 1", "count 1 = 2", "count 3 = 0", "take 3 = 0");
        edge("5: become one: crumbs of one and two cells are no crumb", "space 16 = 1024",
            "take 15 = 1", "give 1 = 15", "take 13 = 1", "count 4 = 2", "join 14 = 3",
            "count 4 = 0", "count 1 = 0", "count 3 = 1", "free 3 0 = 14", "take 3 = 14");
        edge("5: become one: a crumb behind it", "space 16 = 1024", "take 15 = 1", "give 1 = 15",
            "join 1 = 16", "count 4 = 0", "free 15 0 = 0", "free 16 0 = 1");
        edge("5: become one: a crumb and what is behind it", "space 16 = 1024", "take 5 = 1", "take 11 = 6",
            "give 1 = 5", "take 4 = 1", "give 6 = 11", "join 5 = 12", "count 4 = 0", "free 12 0 = 5", "free 11 0 = 0");
    }

    private static void joinOverTheTreesEdge() {
        edge("5: become one: 63 cells", "space 63 = 1024", "take 31 = 1", "give 1 = 31",
            "join 1 = 63", "free 63 0 = 1", "free 31 0 = 0", "free 32 0 = 0", "take 63 = 1");
        edge("5: become one: 64 cells", "space 64 = 1024", "take 32 = 1", "give 1 = 32",
            "join 1 = 64", "free 64 0 = 1", "free 32 0 = 0", "take 64 = 1");
        edge("5: become one: one of a row and one of the tree", "space 80 = 1024", "take 10 = 1", "give 1 = 10",
            "join 1 = 80", "free 10 0 = 0", "free 70 0 = 0", "free 80 0 = 1");
        edge("5: become one: others of that size stay", "space 300 = 1024",
            "take 70 = 1", "take 70 = 71", "take 3 = 141", "take 70 = 144", "take 3 = 214",
            "give 71 = 70", "give 144 = 70", "give 1 = 70", "join 1 = 140",
            "free 70 0 = 144", "free 70 1 = 0", "take 70 = 144");
    }

    private static void joinAll() {
        edge("6: how many pieces there are less: all is used", "space 16 = 1024", "take 16 = 1", "joinAll = 0",
            "piece 1 = 16");
        edge("6: how many pieces there are less: one free piece", "joinAll = 0", "piece 1 = -1024");
        edge("6: how many pieces there are less: one crumb", "space 16 = 1024", "take 15 = 1", "joinAll = 0",
            "count 4 = 1");
        edge("6: how many pieces there are less: a used one between", "space 16 = 1024", "take 5 = 1", "take 6 = 6",
            "give 1 = 5", "joinAll = 0", "piece 1 = -5", "piece 6 = 6", "piece 12 = -5");
        edge("6: how many pieces there are less: all become one", "space 16 = 1024",
            "take 4 = 1", "take 4 = 5", "take 4 = 9", "give 5 = 4", "give 1 = 4", "give 9 = 4",
            "joinAll = 3", "piece 1 = -16", "count 3 = 1", "joinAll = 0");
        edge("6: how many pieces there are less: crumbs too", "space 16 = 1024", "take 15 = 1", "give 1 = 15",
            "take 13 = 1", "joinAll = 1", "count 4 = 0", "free 3 0 = 14");
        edge("6: each free one: the lowest and the highest", "space 22 = 1024",
            "take 4 = 1", "take 4 = 5", "take 6 = 9", "take 4 = 15", "take 4 = 19",
            "give 1 = 4", "give 5 = 4", "give 15 = 4", "give 19 = 4",
            "joinAll = 2", "piece 1 = -8", "piece 9 = 6", "piece 15 = -8");
    }

    private static void joinAllLeavesOrJoins() {
        edge("6: from the lowest piece on: the highest joined is latest, in a row", "space 35 = 1024",
            "take 4 = 1", "take 4 = 5", "take 3 = 9", "take 4 = 12", "take 4 = 16", "take 3 = 20",
            "take 4 = 23", "take 4 = 27", "take 5 = 31",
            "give 27 = 4", "give 23 = 4", "give 16 = 4", "give 12 = 4", "give 5 = 4", "give 1 = 4",
            "joinAll = 3", "free 8 0 = 23", "free 8 1 = 12", "free 8 2 = 1", "free 8 3 = 0");
        edge("6: from the lowest piece on: the highest joined is latest, in the tree", "space 146 = 1024",
            "take 35 = 1", "take 35 = 36", "take 3 = 71", "take 35 = 74", "take 35 = 109", "take 3 = 144",
            "give 109 = 35", "give 74 = 35", "give 36 = 35", "give 1 = 35",
            "joinAll = 2", "free 70 0 = 74", "free 70 1 = 1", "free 35 0 = 0");
        edge("6: each is joined so: nothing changes for one before a used one", "space 16 = 1024",
            "take 5 = 1", "take 3 = 6", "take 5 = 9", "take 3 = 14", "give 9 = 5", "give 1 = 5",
            "joinAll = 0", "free 5 0 = 1", "free 5 1 = 9");
        edge("6: each is joined so: nothing changes for one before the end", "space 16 = 1024",
            "take 3 = 1", "take 5 = 4", "take 3 = 9", "take 5 = 12", "give 12 = 5", "give 4 = 5",
            "joinAll = 0", "free 5 0 = 4", "free 5 1 = 12");
        edge("6: each is joined so: the joined one is later than one left alone", "space 30 = 1024",
            "take 4 = 1", "take 4 = 5", "take 3 = 9", "take 8 = 12", "take 3 = 20", "take 8 = 23",
            "give 1 = 4", "give 5 = 4", "give 12 = 8", "joinAll = 1", "free 8 0 = 1", "free 8 1 = 12");
    }

    private static void suffices() {
        edge("7: IllegalArgumentException: 2", "suffices 2 = IllegalArgument");
        edge("7: IllegalArgumentException: not for 3", "suffices 3 = 1");
        edge("7: IllegalArgumentException: not for 5000", "space 5000 = 1024", "suffices 5000 = 1");
        edge("7: IllegalArgumentException: 5001, though so many are free", "space 16384 = 1024",
            "suffices 5001 = IllegalArgument");
        edge("7: IllegalArgumentException: 1, 0 and below", "suffices 1 = IllegalArgument",
            "suffices 0 = IllegalArgument",
            "suffices -1 = IllegalArgument", "suffices -3 = IllegalArgument");
        edge("7: IllegalArgumentException: the ends of int", "suffices MIN = IllegalArgument",
            "suffices MAX = IllegalArgument");
        edge("7: what take() would answer: all is used", "space 16 = 1024", "take 16 = 1", "suffices 3 = 0");
        edge("7: what take() would answer: only crumbs", "space 16 = 1024", "take 14 = 1", "suffices 3 = 0");
        edge("7: what take() would answer: one too few", "suffices 1024 = 1", "suffices 1025 = 0");
        edge("7: without taking it: it can be asked for again", "space 16 = 1024", "suffices 16 = 1", "suffices 16 = 1",
            "piece 1 = -16", "take 16 = 1");
        edge("7: without taking it: none found is not counted", "suffices 1025 = 0", "suffices 5000 = 0",
            "count 6 = 0");
    }

    private static void piece() {
        edge("8: the size: the fewest used cells", "take 3 = 1", "piece 1 = 3");
        edge("8: the size: the most used cells", "space 5000 = 1024", "take 5000 = 1", "piece 1 = 5000");
        edge("8: below 0 if it is free: crumbs", "space 16 = 1024", "take 15 = 1", "piece 16 = -1",
            "give 1 = 15", "take 13 = 1", "piece 14 = -2");
        edge("8: below 0 if it is free: the most cells", "space 16384 = 1024", "piece 1 = -16384");
        edge("8: 0 if none begins there: within a used one", "take 3 = 1", "piece 2 = 0", "piece 3 = 0");
        edge("8: 0 if none begins there: within a free one", "piece 2 = 0", "piece 1024 = 0");
        edge("8: 0 if none begins there: no cell", "piece 0 = 0", "piece -1 = 0", "piece 1025 = 0", "piece MIN = 0",
            "piece MAX = 0");
        edge("8: 0 if none begins there: it was joined to another", "take 3 = 1", "give 1 = 3", "join 1 = 1024",
            "piece 4 = 0");
    }

    private static void cover() {
        edge("9: where the piece begins: its first and last cell", "take 10 = 1", "take 10 = 11",
            "cover 10 = 1", "cover 11 = 11", "cover 20 = 11", "cover 21 = 21");
        edge("9: where the piece begins: a free one", "cover 1 = 1", "cover 512 = 1", "cover 1024 = 1");
        edge("9: where the piece begins: a crumb", "space 16 = 1024", "take 14 = 1",
            "cover 14 = 1", "cover 15 = 15", "cover 16 = 15");
        edge("9: where the piece begins: the most cells", "space 16384 = 1024", "cover 16384 = 1", "cover 16385 = 0");
        edge("9: 0 if there is no such cell: 0 and below", "cover 0 = 0", "cover -1 = 0", "cover MIN = 0");
        edge("9: 0 if there is no such cell: behind the end", "cover 1025 = 0", "cover MAX = 0");
        edge("9: 0 if there is no such cell: there was one", "space 16 = 1024", "cover 16 = 1", "cover 17 = 0",
            "cover 1024 = 0");
    }

    private static void free() {
        edge("10: k is below 0: -1", "free 1024 -1 = IllegalArgument");
        edge("10: k is below 0: 0 is not", "free 1024 0 = 1");
        edge("10: k is below 0: the lowest int", "free 1024 MIN = IllegalArgument");
        edge("10: k is below 0: of crumbs", "space 16 = 1024", "take 15 = 1", "free 1 -1 = IllegalArgument",
            "free 2 -1 = IllegalArgument");
        edge("10: k is below 0: of a size that none has", "free 10 -1 = IllegalArgument",
            "free 100 -1 = IllegalArgument");
        edge("10: k is below 0: of a size that none can have", "free 0 -1 = IllegalArgument",
            "free -1 -1 = IllegalArgument",
            "free 16385 -1 = IllegalArgument", "free MIN -1 = IllegalArgument", "free MAX -1 = IllegalArgument");
        edge("10: 0 if there are fewer: one fewer in a row", "space 16 = 1024", "take 4 = 1", "take 4 = 5",
            "take 8 = 9",
            "give 1 = 4", "give 5 = 4", "free 4 0 = 5", "free 4 1 = 1", "free 4 2 = 0");
        edge("10: 0 if there are fewer: one fewer in the tree", "space 300 = 1024", "take 70 = 1", "take 70 = 71",
            "take 160 = 141",
            "give 1 = 70", "give 71 = 70", "free 70 0 = 71", "free 70 1 = 1", "free 70 2 = 0");
        edge("10: 0 if there are fewer: the highest int", "space 16 = 1024", "free 16 MAX = 0", "space 64 = 16",
            "free 64 MAX = 0");
        edge("10: 0 if there are fewer: none at all", "space 16 = 1024", "take 16 = 1", "free 16 0 = 0",
            "free 3 0 = 0", "free 64 0 = 0");
        edge("10: 0 if they are crumbs: one cell", "space 16 = 1024", "take 15 = 1", "free 1 0 = 0", "free 1 1 = 0");
        edge("10: 0 if they are crumbs: two cells", "space 16 = 1024", "take 14 = 1", "free 2 0 = 0", "free 2 1 = 0");
        edge("10: 0 if they are crumbs: three are none", "space 16 = 1024", "take 13 = 1", "free 3 0 = 14",
            "free 3 1 = 0");
    }

    private static void freeCountsFreeOnesAlone() {
        edge("10: with so many cells: just so many", "space 16 = 1024", "free 15 0 = 0", "free 16 0 = 1",
            "free 17 0 = 0");
        edge("10: with so many cells: just so many in the tree", "space 100 = 1024",
            "free 99 0 = 0", "free 100 0 = 1", "free 101 0 = 0");
        edge("10: with so many cells: 63 and 64", "space 130 = 1024", "take 63 = 1", "take 3 = 64", "give 1 = 63",
            "free 63 0 = 1", "free 64 0 = 67", "free 62 0 = 0", "free 65 0 = 0");
        edge("10: with so many cells: more than take() takes", "space 16384 = 1024", "free 16384 0 = 1",
            "free 16383 0 = 0",
            "space 5001 = 16384", "free 5001 0 = 1");
        edge("10: with so many cells: sizes that none can have", "free 0 0 = 0", "free -1 0 = 0", "free -1024 0 = 0",
            "free 1025 0 = 0", "free MIN 0 = 0", "free MAX 0 = 0");
        edge("10: the free pieces: not the used ones", "space 16 = 1024", "take 8 = 1", "take 8 = 9", "give 9 = 8",
            "free 8 0 = 9", "free 8 1 = 0");
        edge("10: k-th latest: the middle one goes", "space 50 = 1024",
            "take 5 = 1", "take 3 = 6", "take 5 = 9", "take 3 = 14", "take 5 = 17", "take 5 = 22",
            "give 1 = 5", "give 17 = 5", "give 9 = 5", "give 22 = 5", "join 17 = 34",
            "free 5 0 = 9", "free 5 1 = 1", "free 5 2 = 0");
    }

    private static void count() {
        edge("11: none of these: -1", "count -1 = IllegalArgument");
        edge("11: none of these: 8", "count 8 = IllegalArgument");
        edge("11: none of these: the ends of int", "count MIN = IllegalArgument", "count MAX = IllegalArgument");
        edge("11: all is free", "space 16 = 1024", "count 0 = 16", "count 1 = 0", "count 2 = 0", "count 3 = 1",
            "count 4 = 0", "count 5 = 16", "count 6 = 0", "count 7 = 16");
        edge("11: all is used", "space 16 = 1024", "take 16 = 1", "count 0 = 0", "count 1 = 0", "count 2 = 1",
            "count 3 = 0", "count 4 = 0", "count 5 = 0", "count 6 = 0", "count 7 = 16");
        edge("11: only crumbs are free", "space 17 = 1024", "take 5 = 1", "take 11 = 6", "give 1 = 5", "take 3 = 1",
            "count 0 = 3", "count 1 = 3", "count 2 = 2", "count 3 = 0", "count 4 = 2", "count 7 = 17");
        edge("11: cells of the greatest free piece: two crumbs", "space 17 = 1024", "take 5 = 1", "take 11 = 6",
            "give 1 = 5", "take 3 = 1", "count 5 = 2");
        edge("11: cells of the greatest free piece: not of a used one", "space 16 = 1024", "take 10 = 1",
            "count 5 = 6");
        edge("11: cells of the greatest free piece: in a row", "space 66 = 1024", "take 3 = 1", "count 5 = 63");
        edge("11: cells of the greatest free piece: in the tree", "space 67 = 1024", "take 3 = 1", "count 5 = 64");
        edge("11: cells of the greatest free piece: of two in the tree, the lower", "space 400 = 1024",
            "take 200 = 1", "take 100 = 201", "give 1 = 200", "count 5 = 200");
        edge("11: cells of the greatest free piece: the most", "space 16384 = 1024", "count 5 = 16384");
        edge("11: cells of the greatest free piece: 0: none", "take 1024 = 1", "count 5 = 0");
        edge("11: the cells: whatever is used", "space 16 = 1024", "take 10 = 1", "count 7 = 16");
    }

    private static void countOfMisses() {
        edge("11: how often take() found none: each time", "space 16 = 1024", "take 17 = 0", "take 17 = 0",
            "take 5000 = 0", "count 6 = 3");
        edge("11: how often take() found none: not when it found one", "take 3 = 1", "take 1021 = 4", "count 6 = 0");
        edge("11: how often take() found none: not when it was refused", "take 2 = IllegalArgument",
            "take 5001 = IllegalArgument", "count 6 = 0");
        edge("11: how often take() found none: not what suffices() found", "suffices 1025 = 0", "count 6 = 0");
        edge("11: since the latest space(): of a new object", "take 1025 = 0", "count 6 = 1");
        edge("11: since the latest space(): none before it", "take 1025 = 0", "space 16 = 1024", "take 17 = 0",
            "count 6 = 1");
        edge("11: since the latest space(): a refused one is none", "take 1025 = 0", "space 15 = IllegalArgument",
            "count 6 = 1");
    }

    private static void faults() {
        edge("12: none: a new object", "faults = 0");
        edge("12: none: all is used", "space 16 = 1024", "take 16 = 1", "faults = 0");
        edge("12: none: only crumbs are free", "space 16 = 1024", "take 14 = 1", "faults = 0");
        edge("12: none: the fewest and the most cells", "space 16 = 1024", "faults = 0", "space 16384 = 16",
            "faults = 0");
        edge("12: none: 63 and 64 cells", "space 63 = 1024", "faults = 0", "space 64 = 63", "faults = 0");
        edge("12: none: 3 cells are free", "take 3 = 1", "take 3 = 4", "give 1 = 3", "faults = 0");
        edge("12: none: sizes side by side in the tree", "take 64 = 1", "take 3 = 65", "take 65 = 68", "take 3 = 133",
            "give 1 = 64", "give 68 = 65", "faults = 0");
        edge("12: none: after refused calls", "take 2 = IllegalArgument", "give 1 = NoSuchElement",
            "space 15 = IllegalArgument", "join 2 = NoSuchElement", "faults = 0");
        edge("12: none: neighbours may both be free", "take 10 = 1", "give 1 = 10", "faults = 0", "joinAll = 1",
            "faults = 0");
        edge("12: goes over all: and changes nothing", "take 10 = 1", "give 1 = 10", "faults = 0", "faults = 0",
            "piece 1 = -10", "free 10 0 = 1", "free 1014 0 = 11", "count 3 = 2");
    }

    private static void callsInAll() {
        edges++;
        ChunkShelf x = new ChunkShelf();
        due("512 calls: the last is answered as the first", x, "space 16384", 1024);
        for (int i = 0; i < 510; i++) {
            due("512 calls: the last is answered as the first", x, "take 3", 1 + 3 * i);
        }
        due("512 calls: the last is answered as the first", x, "faults", 0);

        edges++;
        x = new ChunkShelf();
        for (int i = 0; i < 255; i++) {
            due("6: how many pieces there are less: the most in 512 calls", x, "take 3", 1 + 3 * i);
        }
        for (int i = 0; i < 255; i++) {
            due("6: how many pieces there are less: the most in 512 calls", x, "give " + (1 + 3 * i), 3);
        }
        due("6: how many pieces there are less: the most in 512 calls", x, "joinAll", 255);
        due("6: how many pieces there are less: the most in 512 calls", x, "piece 1", -1024);
    }

    private static void edge(String sentence, String... calls) {
        edges++;
        ChunkShelf x = new ChunkShelf();
        int before = broken;
        for (int i = 0; i < calls.length && broken == before; i++) {
            String[] sides = calls[i].split(" = ");
            due(sentence, x, sides[0], Calls.number(sides[1]));
        }
    }

    private static void due(String sentence, ChunkShelf x, String call, int want) {
        int got = Calls.answer(x, call);
        if (got != want) {
            broken++;
            System.out.println(sentence + ": " + call + " answered " + Calls.name(got) + ", due is " + Calls.name(want));
        }
    }
}
