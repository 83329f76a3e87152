/** Promises 35 to 41, and what the Terms say of SHELVES: each edge by the words that name it. */
public final class ShelvesEdgesTest {
    private static final Due due = new Due("ShelvesEdgesTest");
    private static final long NONE = Long.MIN_VALUE;

    public static void main(String[] args) {
        sixShelves();
        nothingAtFirst();
        keepNothing();
        keepBad();
        rowSorts();
        rowSizes();
        sizeBelowZero();
        zeroAtFirst();
        lowestBits();
        booleans();
        putRefusals();
        elementRefusals();
        placeNotThere();
        shiftOverlapping();
        shiftBad();
        shiftNothing();
        shiftKinds();
        shiftPlaces();
        shiftNone();
        shiftOrder();
        takenOrUnder();
        takenRefusals();
        countOfAll();
        countBad();
        ownMemory();
        refusedChangesNothing();
        due.end();
    }

    private static FootstepsAhead withBody(int shelf, int kind) {
        FootstepsAhead x = new FootstepsAhead();
        x.body(kind);
        x.keep(shelf, 0);
        return x;
    }

    private static void sixShelves() {
        due.on("SHELVES 0 .. 5 each hold nothing (at first), a BODY, or a ROW:");
        FootstepsAhead x = new FootstepsAhead();
        x.body(1);
        for (int shelf = 0; shelf < 6; shelf++) {
            due.is("row on " + shelf, x.row(shelf, 3, 1), 1);
            due.is("put on " + shelf, x.put(shelf, 0, 70 + shelf), 1);
        }
        for (int shelf = 0; shelf < 6; shelf++) {
            due.is("element on " + shelf, x.element(shelf, 0), 70 + shelf);
            due.is("shift on " + shelf, x.shift(shelf, 0, shelf, 0, 1), 1);
            due.is("keep on " + shelf, x.keep(shelf, 0), 1);
            due.is("taken of " + shelf, x.taken(shelf, 0), 1);
        }
        int[] none = {-1, 6, Integer.MAX_VALUE, Integer.MIN_VALUE};
        for (int shelf : none) {
            due.is("row on " + shelf, x.row(shelf, 3, 1), -1);
            due.is("put on " + shelf, x.put(shelf, 0, 1), -1);
            due.is("element on " + shelf, x.element(shelf, 0), NONE);
            due.is("shift from " + shelf, x.shift(shelf, 0, 0, 0, 1), -1);
            due.is("shift to " + shelf, x.shift(0, 0, shelf, 0, 1), -1);
            due.is("keep on " + shelf, x.keep(shelf, 0), -1);
            due.is("keep nothing on " + shelf, x.keep(shelf, -1), -1);
            due.is("taken of " + shelf, x.taken(shelf, 0), -1);
        }
    }

    private static void nothingAtFirst() {
        due.on("each hold nothing (at first)");
        FootstepsAhead x = new FootstepsAhead();
        for (int shelf = 0; shelf < 6; shelf++) {
            due.is("put on " + shelf, x.put(shelf, 0, 1), -11);
            due.is("element on " + shelf, x.element(shelf, 0), NONE);
            due.is("taken of " + shelf, x.taken(shelf, 0), -11);
            due.is("shift on " + shelf, x.shift(shelf, 0, shelf, 0, 0), -11);
        }
    }

    private static void keepNothing() {
        due.on("A SHELF holds nothing (body -1), or a BODY: 1. BAD.");
        FootstepsAhead x = withBody(0, 5);
        due.is("a body", x.taken(0, 0), 5);
        due.is("nothing for a body", x.keep(0, -1), 1);
        due.is("nothing", x.taken(0, 0), -11);
        due.is("nothing for nothing", x.keep(0, -1), 1);
        x.row(0, 0, 3);
        due.is("nothing for a row", x.keep(0, -1), 1);
        due.is("nothing", x.put(0, 0, 1), -11);
        x.row(0, 0, 3);
        due.is("a body for a row", x.keep(0, 0), 1);
        due.is("no row", x.put(0, 0, 1), -12);
        due.is("a row for a body", x.row(0, 0, 3), 1);
        due.is("no body", x.taken(0, 0), -12);
    }

    private static void keepBad() {
        due.on("or a BODY: 1. BAD.");
        FootstepsAhead x = withBody(0, 5);
        int[] none = {-2, 1, 49, 50, Integer.MAX_VALUE, Integer.MIN_VALUE};
        for (int body : none) {
            due.is("body " + body, x.keep(0, body), -1);
        }
        due.is("still there", x.taken(0, 0), 5);
        for (int i = 1; i < 50; i++) {
            x.body(7);
        }
        due.is("body 49", x.keep(0, 49), 1);
        due.is("is of kind 7", x.taken(0, 7), 7);
        due.is("body 50", x.keep(0, 50), -1);
    }

    private static void rowSorts() {
        due.on("of 0 bytes, 1 shorts, 2 ints, 3 longs, 4 booleans,");
        FootstepsAhead x = new FootstepsAhead();
        long v = 0x123456789abcdef8L;
        long[] kept = {(byte) v, (short) v, (int) v, v, 1};
        for (int sort = 0; sort < 5; sort++) {
            due.is("sort " + sort, x.row(0, sort, 1), 1);
            x.put(0, 0, v);
            due.is("keeps", x.element(0, 0), kept[sort]);
        }
        int[] none = {-1, 5, Integer.MAX_VALUE, Integer.MIN_VALUE};
        for (int sort : none) {
            due.is("sort " + sort, x.row(0, sort, 1), -1);
            due.is("sort " + sort + ", size below 0", x.row(0, sort, -1), -1);
        }
    }

    private static void rowSizes() {
        due.on("A SHELF holds a ROW: 1. BAD (sort, n above 60); -14.");
        FootstepsAhead x = new FootstepsAhead();
        due.is("0", x.row(0, 0, 0), 1);
        due.is("has no element", x.put(0, 0, 1), -13);
        due.is("1", x.row(0, 0, 1), 1);
        due.is("has one", x.put(0, 0, 1), 1);
        due.is("has no second", x.put(0, 1, 1), -13);
        due.is("60", x.row(0, 0, 60), 1);
        due.is("has the last", x.put(0, 59, 1), 1);
        due.is("has none behind", x.put(0, 60, 1), -13);
        due.is("61", x.row(0, 0, 61), -1);
        due.is("far off", x.row(0, 0, Integer.MAX_VALUE), -1);
        due.is("the row of 60 stays", x.element(0, 59), 1);
    }

    private static void sizeBelowZero() {
        due.on("-14 a size below 0.");
        FootstepsAhead x = new FootstepsAhead();
        due.is("-1", x.row(0, 0, -1), -14);
        due.is("far below", x.row(0, 4, Integer.MIN_VALUE), -14);
        due.is("nothing came", x.put(0, 0, 1), -11);
        due.is("no shelf", x.row(6, 0, -1), -1);
        due.is("no sort", x.row(0, 5, -1), -1);
    }

    private static void zeroAtFirst() {
        due.on("of 0 .. 60 elements, 0 at first (false);");
        FootstepsAhead x = new FootstepsAhead();
        for (int sort = 0; sort < 5; sort++) {
            x.row(0, sort, 60);
            for (int i = 0; i < 60; i++) {
                due.is("element " + i, x.element(0, i), 0);
            }
            x.put(0, 0, 1);
            x.put(0, 59, 1);
        }
        x.row(0, 4, 1);
        due.is("a row of one", x.element(0, 0), 0);
        x.row(0, 4, 60);
        due.is("the last again", x.element(0, 59), 0);
    }

    private static void lowestBits() {
        due.on("what is put in keeps its lowest bits");
        FootstepsAhead x = new FootstepsAhead();
        long[][] rows = { // sort, put, kept
            {0, 127, 127}, {0, 128, -128}, {0, 255, -1}, {0, 256, 0}, {0, -128, -128}, {0, -129, 127},
            {0, Long.MAX_VALUE, -1}, {0, Long.MIN_VALUE, 0},
            {1, 32767, 32767}, {1, 32768, -32768}, {1, 65535, -1}, {1, 65536, 0}, {1, -32769, 32767},
            {1, Long.MAX_VALUE, -1}, {1, Long.MIN_VALUE, 0},
            {2, 2147483647L, 2147483647L}, {2, 2147483648L, -2147483648L}, {2, 4294967295L, -1}, {2, 4294967296L, 0},
            {2, -2147483649L, 2147483647L}, {2, Long.MAX_VALUE, -1}, {2, Long.MIN_VALUE, 0},
            {3, Long.MAX_VALUE, Long.MAX_VALUE}, {3, Long.MIN_VALUE + 1, Long.MIN_VALUE + 1}, {3, 1L << 62, 1L << 62},
            {3, Long.MIN_VALUE, Long.MIN_VALUE},
        };
        for (long[] row : rows) {
            x.row(0, (int) row[0], 2);
            due.is("put", x.put(0, 1, row[1]), 1);
            due.is("sort " + row[0] + " keeps of " + row[1], x.element(0, 1), row[2]);
            due.is("its neighbour", x.element(0, 0), 0);
        }
    }

    private static void booleans() {
        due.on("(a boolean: whether it is not 0; 1 or 0)");
        FootstepsAhead x = new FootstepsAhead();
        x.row(0, 4, 1);
        long[] ones = {1, 2, -1, 256, 65536, 1L << 32, Long.MAX_VALUE, Long.MIN_VALUE};
        for (long v : ones) {
            x.put(0, 0, 0);
            due.is("0", x.element(0, 0), 0);
            x.put(0, 0, v);
            due.is("not 0: " + v, x.element(0, 0), 1);
        }
    }

    private static void putRefusals() {
        due.on("Element i of a ROW becomes v: 1. BAD, -11, -12, -13.");
        FootstepsAhead x = withBody(1, 0);
        x.row(2, 2, 3);
        due.is("shelf 6, no place", x.put(6, -1, 1), -1);
        due.is("nothing, no place", x.put(0, -1, 1), -11);
        due.is("a body, no place", x.put(1, -1, 1), -12);
        due.is("no place", x.put(2, -1, 1), -13);
        due.is("a place", x.put(2, 2, 1), 1);
    }

    private static void elementRefusals() {
        due.on("Element i of a ROW; Long.MIN_VALUE: BAD, -11 to -13.");
        FootstepsAhead x = withBody(1, 0);
        x.row(2, 2, 3);
        x.put(2, 2, 9);
        due.is("shelf 6", x.element(6, 0), NONE);
        due.is("shelf -1", x.element(-1, 0), NONE);
        due.is("nothing", x.element(0, 0), NONE);
        due.is("a body", x.element(1, 0), NONE);
        due.is("place -1", x.element(2, -1), NONE);
        due.is("place 3", x.element(2, 3), NONE);
        due.is("the last", x.element(2, 2), 9);
    }

    private static void placeNotThere() {
        due.on("-13 a place that is not there;");
        FootstepsAhead x = new FootstepsAhead();
        for (int size = 0; size <= 60; size += 30) {
            x.row(0, 1, size);
            int[] none = {-1, size, size + 1, 60, 61, Integer.MAX_VALUE, Integer.MIN_VALUE};
            for (int i : none) {
                due.is("put at " + i + " of " + size, x.put(0, i, 1), -13);
                due.is("element at " + i + " of " + size, x.element(0, i), NONE);
            }
        }
    }

    private static void elements(FootstepsAhead x, int shelf, int... want) {
        for (int i = 0; i < want.length; i++) {
            due.is("element " + i + " of " + shelf, x.element(shelf, i), want[i]);
        }
    }

    private static void shiftOverlapping() {
        due.on("come to another one (or the same) from j on, as they all were before: n.");
        FootstepsAhead x = new FootstepsAhead();
        Due.row(x, 0, 2, 1, 2, 3, 4, 5);
        due.is("up", x.shift(0, 0, 0, 1, 4), 4);
        elements(x, 0, 1, 1, 2, 3, 4);
        Due.row(x, 0, 2, 1, 2, 3, 4, 5);
        due.is("down", x.shift(0, 1, 0, 0, 4), 4);
        elements(x, 0, 2, 3, 4, 5, 5);
        due.is("onto itself", x.shift(0, 0, 0, 0, 5), 5);
        elements(x, 0, 2, 3, 4, 5, 5);
        x.row(1, 2, 4);
        due.is("to another", x.shift(0, 1, 1, 2, 2), 2);
        elements(x, 1, 0, 0, 3, 4);
        elements(x, 0, 2, 3, 4, 5, 5);
    }

    private static void shiftBad() {
        due.on("as they all were before: n. BAD, -11 (either)");
        FootstepsAhead x = new FootstepsAhead();
        int[] none = {-1, 6, Integer.MAX_VALUE, Integer.MIN_VALUE};
        for (int shelf : none) {
            due.is("from " + shelf + " to nothing", x.shift(shelf, 0, 0, 0, 1), -1);
            due.is("from nothing to " + shelf, x.shift(0, 0, shelf, 0, 1), -1);
        }
    }

    private static void shiftNothing() {
        due.on("-11 (either)");
        FootstepsAhead x = withBody(1, 0);
        x.row(2, 0, 3);
        due.is("from nothing", x.shift(0, 0, 2, 0, 1), -11);
        due.is("to nothing", x.shift(2, 0, 0, 0, 1), -11);
        due.is("from a body to nothing", x.shift(1, 0, 0, 0, 1), -11);
        due.is("from nothing to a body", x.shift(0, 0, 1, 0, 1), -11);
        due.is("from nothing to nothing", x.shift(0, 0, 3, 0, 1), -11);
    }

    private static void shiftKinds() {
        due.on("-12 (no ROWS, or of unlike sorts)");
        FootstepsAhead x = withBody(1, 0);
        x.row(2, 0, 3);
        due.is("from a body", x.shift(1, 0, 2, 0, 1), -12);
        due.is("to a body", x.shift(2, 0, 1, 0, 1), -12);
        due.is("from a body onto itself", x.shift(1, 0, 1, 0, 0), -12);
        for (int one = 0; one < 5; one++) {
            for (int other = 0; other < 5; other++) {
                x.row(2, one, 3);
                x.row(3, other, 3);
                due.is("from sort " + one + " to " + other, x.shift(2, 0, 3, 0, 3), one == other ? 3 : -12);
            }
        }
    }

    private static void shiftPlaces() {
        due.on("-13 (n below 0, too).");
        FootstepsAhead x = new FootstepsAhead();
        x.row(0, 0, 5);
        x.row(1, 0, 3);
        int most = Integer.MAX_VALUE;
        int least = Integer.MIN_VALUE;
        int[][] rows = {{0, 0, -1}, {0, 0, least}, {-1, 0, 1}, {0, -1, 1}, {least, 0, 1}, {0, least, 1}, {5, 0, 1}, {0, 3, 1},
            {3, 0, 3}, {0, 1, 3}, {0, 0, 4}, {most, 0, 1}, {0, most, 1}, {0, 0, most}, {1, 1, most}, {most, most, most}};
        for (int[] row : rows) {
            due.is("from " + row[0] + " to " + row[1] + ", " + row[2], x.shift(0, row[0], 1, row[1], row[2]), -13);
        }
        due.is("all of the shorter", x.shift(0, 2, 1, 0, 3), 3);
        due.is("the last of both", x.shift(0, 4, 1, 2, 1), 1);
        due.is("all of the shorter back", x.shift(1, 0, 0, 2, 3), 3);
        due.is("one too many back", x.shift(1, 0, 0, 3, 3), -13);
    }

    private static void shiftNone() {
        due.on("n elements of a ROW from i on");
        FootstepsAhead x = new FootstepsAhead();
        Due.row(x, 0, 0, 1, 2);
        Due.row(x, 1, 0, 3);
        due.is("none", x.shift(0, 0, 1, 0, 0), 0);
        elements(x, 1, 3);
        due.is("none from the end to the end", x.shift(0, 2, 1, 1, 0), 0);
        due.is("none from a place that is not there", x.shift(0, 3, 1, 0, 0), -13);
        due.is("none to a place that is not there", x.shift(0, 0, 1, 2, 0), -13);
        due.is("none from -1", x.shift(0, -1, 1, 0, 0), -13);
    }

    private static void shiftOrder() {
        due.on("Answers, of several the one named first: BAD (-1)");
        FootstepsAhead x = withBody(1, 0);
        x.row(2, 0, 3);
        x.row(3, 1, 3);
        due.is("a shelf that is none, nothing, no place", x.shift(6, -1, 0, 0, -1), -1);
        due.is("nothing, a body, no place", x.shift(1, -1, 0, 0, -1), -11);
        due.is("unlike, no place", x.shift(2, -1, 3, 0, 1), -12);
        due.is("unlike, below 0", x.shift(2, 0, 3, 0, -1), -12);
        due.is("a body, no place", x.shift(1, 0, 2, 9, 1), -12);
    }

    private static void takenOrUnder() {
        due.on("taken for a BODY of KIND k (0 .. 7), or under it: its KIND.");
        int[][] above = {{0}, {1, 0}, {2, 0}, {3, 2, 0}, {4, 1, 0}, {5, 3, 2, 0}, {6, 0}, {7, 6, 0}};
        for (int kind = 0; kind < 8; kind++) {
            FootstepsAhead x = withBody(3, kind);
            for (int k = 0; k < 8; k++) {
                int want = -12;
                for (int up : above[kind]) {
                    want = up == k ? kind : want;
                }
                due.is("kind " + kind + " for " + k, x.taken(3, k), want);
            }
        }
    }

    private static void takenRefusals() {
        due.on("its KIND. BAD, -11, -12.");
        FootstepsAhead x = withBody(1, 4);
        x.row(2, 0, 3);
        int[] none = {-1, 8, Integer.MAX_VALUE, Integer.MIN_VALUE};
        for (int k : none) {
            for (int shelf = 0; shelf < 3; shelf++) {
                due.is("kind " + k + " of shelf " + shelf, x.taken(shelf, k), -1);
            }
        }
        due.is("nothing", x.taken(0, 0), -11);
        due.is("a row", x.taken(2, 0), -12);
        due.is("not under 2", x.taken(1, 2), -12);
        due.is("under 1", x.taken(1, 1), 4);
    }

    private static void countOfAll() {
        due.on("How many: 0 WALKERS, 1 WAYS of all, 2 bytes on THE TAPE, 3 changes that may be UNDONE, 4 BODIES,");
        FootstepsAhead x = new FootstepsAhead();
        int[] want = new int[6];
        counts(x, want);
        Due.walker(x, 0);
        Due.walker(x, 0);
        want[0] = 2;
        want[1] = 2;
        counts(x, want);
        Due.way(x, 0, 0);
        want[1] = 3;
        counts(x, want);
        for (int i = 1; i <= 4; i++) {
            x.feed('n');
        }
        want[2] = 4;
        counts(x, want);
        for (int i = 1; i <= 5; i++) {
            x.mend(0, 0, i);
        }
        want[3] = 5;
        counts(x, want);
        for (int i = 1; i <= 6; i++) {
            x.body(3);
        }
        want[4] = 6;
        counts(x, want);
        x.act(5, 3, 1);
        want[5] = 7;
        counts(x, want);
    }

    private static void counts(FootstepsAhead x, int... want) {
        for (int what = 0; what < want.length; what++) {
            due.is("count " + what, x.count(what), want[what]);
        }
    }

    private static void countBad() {
        due.on("(all, kept or not). BAD.");
        FootstepsAhead x = new FootstepsAhead();
        int[] none = {-1, 6, Integer.MAX_VALUE, Integer.MIN_VALUE};
        for (int what : none) {
            due.is("count " + what, x.count(what), -1);
        }
    }

    private static void ownMemory() {
        due.on("All memory is the class's own.");
        FootstepsAhead x = withBody(0, 5);
        FootstepsAhead y = new FootstepsAhead();
        due.is("another object holds nothing", y.taken(0, 0), -11);
        Due.walker(y, 3);
        Due.row(y, 5, 0, 4);
        due.is("a way is kept apart from its row", y.place(0, 0), 3);
        y.keep(5, -1);
        due.is("and from its shelf", y.place(0, 0), 3);
        due.is("nobody came to the other", x.count(0), 0);
        Due.law(y, "1");
        Due.walker(x, 0);
        Due.way(x, 0, 1);
        due.is("the other's law stays", x.takes(0, 0), 0);
    }

    private static FootstepsAhead filled() {
        FootstepsAhead x = withBody(0, 5);
        Due.row(x, 1, 1, 1, 2, 3);
        Due.row(x, 2, 0, 4, 5);
        return x;
    }

    private static void refusedChangesNothing() {
        due.on("What is answered so changes nothing.");
        FootstepsAhead x = filled();
        FootstepsAhead y = filled();
        due.is("keep BAD", x.keep(1, 1), -1);
        due.is("row BAD", x.row(1, 5, 2), -1);
        due.is("row BAD", x.row(1, 1, 61), -1);
        due.is("row -14", x.row(1, 1, -1), -14);
        due.is("put -11", x.put(3, 0, 9), -11);
        due.is("put -12", x.put(0, 0, 9), -12);
        due.is("put -13", x.put(1, 3, 9), -13);
        due.is("shift -11", x.shift(1, 0, 3, 0, 1), -11);
        due.is("shift -12", x.shift(1, 0, 2, 0, 1), -12);
        due.is("shift -13", x.shift(1, 0, 1, 2, 2), -13);
        due.is("taken -12", x.taken(0, 1), -12);
        due.is("count BAD", x.count(6), -1);
        Alike.ask(due, "refused of shelves", x, y);
    }
}
