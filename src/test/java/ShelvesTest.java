/** Promises 35 to 41: keep, row, put, element, shift, taken, count. */
public final class ShelvesTest {
    private static final Due due = new Due("ShelvesTest");
    private static final long NONE = Long.MIN_VALUE;

    public static void main(String[] args) {
        keeping();
        rows();
        elements();
        shifting();
        takings();
        counts();
        due.end();
    }

    private static void keeping() {
        FootstepsAhead x = new FootstepsAhead();
        due.is("no body yet", x.keep(0, 0), -1);
        due.is("nothing on nothing", x.keep(0, -1), 1);
        x.body(1);
        x.body(5);
        due.is("keep", x.keep(0, 1), 1);
        due.is("taken", x.taken(0, 0), 5);
        due.is("keep on the last", x.keep(5, 0), 1);
        due.is("taken", x.taken(5, 0), 1);
        due.is("shelf 6", x.keep(6, 0), -1);
        due.is("shelf -1", x.keep(-1, 0), -1);
        due.is("body 2", x.keep(0, 2), -1);
        due.is("body -2", x.keep(0, -2), -1);
        due.is("still there", x.taken(0, 0), 5);
        due.is("put away", x.keep(0, -1), 1);
        due.is("nothing there", x.taken(0, 0), -11);
        x.row(0, 3, 4);
        due.is("a body for a row", x.keep(0, 0), 1);
        due.is("no row any more", x.put(0, 0, 1), -12);
        x.row(0, 3, 4);
        due.is("a row for a body", x.put(0, 3, 1), 1);
        due.is("nothing for a row", x.keep(0, -1), 1);
        due.is("nothing", x.put(0, 3, 1), -11);
    }

    private static void rows() {
        FootstepsAhead x = new FootstepsAhead();
        int[][] bad = {{6, 0, 1}, {-1, 0, 1}, {0, 5, 1}, {0, -1, 1}, {0, 0, 61}, {6, 0, -1}, {0, 5, -1},
            {0, 0, Integer.MAX_VALUE}};
        for (int[] row : bad) {
            due.is("row", x.row(row[0], row[1], row[2]), -1);
        }
        due.is("size -1", x.row(0, 0, -1), -14);
        due.is("size far below", x.row(0, 4, Integer.MIN_VALUE), -14);
        due.is("nothing came of it", x.element(0, 0), NONE);
        for (int sort = 0; sort <= 4; sort++) {
            due.is("60 of sort " + sort, x.row(sort, sort, 60), 1);
            for (int i = 0; i < 60; i += 59) {
                due.is("0 at first", x.element(sort, i), 0);
                due.is("put", x.put(sort, i, 1), 1);
            }
            due.is("size 0", x.row(5, sort, 0), 1);
            due.is("no element", x.put(5, 0, 1), -13);
        }
        due.is("a size below 0 changes nothing", x.row(0, 0, -1), -14);
        due.is("the row is there", x.element(0, 59), 1);
        due.is("a new row", x.row(0, 0, 60), 1);
        due.is("is 0 again", x.element(0, 59), 0);
        x.put(0, 5, 9);
        x.row(0, 0, 5);
        x.row(0, 0, 6);
        due.is("and again", x.element(0, 5), 0);
    }

    private static void elements() {
        FootstepsAhead x = new FootstepsAhead();
        long[] values = {0, 1, -1, 2, 127, 128, 255, 256, 300, -129, 32767, 32768, 65536, 1L << 31, (1L << 31) - 1, 1L << 32,
            (1L << 32) + 5, Long.MAX_VALUE, Long.MIN_VALUE + 1, -(1L << 40) - 77};
        for (int sort = 0; sort <= 4; sort++) {
            x.row(sort, sort, 3);
            for (long v : values) {
                long[] kept = {(byte) v, (short) v, (int) v, v, v != 0 ? 1 : 0};
                due.is("put " + v, x.put(sort, 1, v), 1);
                due.is("element of sort " + sort + " " + v, x.element(sort, 1), kept[sort]);
            }
            due.is("its neighbours", x.element(sort, 0) + x.element(sort, 2), 0);
            int[] places = {-1, 3, 60, Integer.MAX_VALUE, Integer.MIN_VALUE};
            for (int i : places) {
                due.is("put at " + i, x.put(sort, i, 1), -13);
                due.is("element at " + i, x.element(sort, i), NONE);
            }
        }
        due.is("put on 6", x.put(6, 0, 1), -1);
        due.is("put on -1", x.put(-1, 0, 1), -1);
        due.is("element on 6", x.element(6, 0), NONE);
        due.is("element on -1", x.element(-1, 0), NONE);
        due.is("put on nothing", x.put(5, -1, 1), -11);
        due.is("element on nothing", x.element(5, 0), NONE);
        x.body(0);
        x.keep(5, 0);
        due.is("put on a body", x.put(5, -1, 1), -12);
        due.is("element on a body", x.element(5, 0), NONE);
    }

    private static void shifted(FootstepsAhead x, String call, int shelf, int... want) {
        for (int i = 0; i < want.length; i++) {
            due.is(call + " " + i, x.element(shelf, i), want[i]);
        }
    }

    private static void shifting() {
        FootstepsAhead x = new FootstepsAhead();
        Due.row(x, 0, 2, 1, 2, 3, 4, 5);
        due.is("onto itself, up", x.shift(0, 0, 0, 1, 4), 4);
        shifted(x, "up", 0, 1, 1, 2, 3, 4);
        due.is("onto itself, down", x.shift(0, 2, 0, 0, 3), 3);
        shifted(x, "down", 0, 2, 3, 4, 3, 4);
        x.row(1, 2, 3);
        due.is("to another", x.shift(0, 1, 1, 1, 2), 2);
        shifted(x, "to another", 1, 0, 3, 4);
        shifted(x, "from another", 0, 2, 3, 4, 3, 4);
        int[][] none = {{-1, 0, 1}, {0, -1, 1}, {0, 0, -1}, {0, 0, 4}, {5, 0, 1}, {6, 0, 0}, {0, 3, 1}, {0, 4, 0}, {4, 2, 2},
            {2, 0, 4}, {Integer.MAX_VALUE, 0, 1}, {0, Integer.MAX_VALUE, 1}, {0, 0, Integer.MAX_VALUE}, {1, 1, Integer.MAX_VALUE},
            {Integer.MIN_VALUE, 0, 1}, {0, 0, Integer.MIN_VALUE}, {Integer.MAX_VALUE, 1, Integer.MAX_VALUE}};
        for (int[] row : none) {
            due.is("no such places", x.shift(0, row[0], 1, row[1], row[2]), -13);
        }
        shifted(x, "nothing came", 1, 0, 3, 4);
        due.is("none at the end", x.shift(0, 5, 1, 3, 0), 0);
        due.is("all", x.shift(1, 0, 0, 2, 3), 3);
        shifted(x, "all", 0, 2, 3, 0, 3, 4);
        due.is("shelf 6", x.shift(6, 0, 0, 0, 1), -1);
        due.is("other 6", x.shift(0, 0, 6, 0, 1), -1);
        due.is("shelf -1", x.shift(-1, 0, 0, 0, 1), -1);
        due.is("other -1", x.shift(0, 0, -1, 0, 1), -1);
        x.body(0);
        x.keep(3, 0);
        Due.row(x, 4, 3, 1);
        due.is("nothing there", x.shift(2, 0, 0, 0, 1), -11);
        due.is("nothing at the other", x.shift(0, 0, 2, 0, 1), -11);
        due.is("a body and nothing", x.shift(3, 0, 2, 0, 1), -11);
        due.is("nothing and a body", x.shift(2, 0, 3, 0, 1), -11);
        due.is("a body", x.shift(3, 0, 0, 0, -1), -12);
        due.is("a body at the other", x.shift(0, 0, 3, 0, -1), -12);
        due.is("a body onto itself", x.shift(3, 0, 3, 0, 0), -12);
        due.is("unlike sorts", x.shift(0, 0, 4, 0, 1), -12);
        due.is("unlike sorts, no place", x.shift(0, 9, 4, 0, 1), -12);
        for (int sort = 0; sort <= 4; sort++) {
            Due.row(x, 0, sort, 1, 0, 1);
            x.row(1, sort, 3);
            due.is("of sort " + sort, x.shift(0, 0, 1, 0, 3), 3);
            shifted(x, "of sort " + sort, 1, 1, 0, 1);
        }
    }

    private static void takings() {
        FootstepsAhead x = new FootstepsAhead();
        int[][] above = {{0}, {1, 0}, {2, 0}, {3, 2, 0}, {4, 1, 0}, {5, 3, 2, 0}, {6, 0}, {7, 6, 0}};
        for (int kind = 0; kind < 8; kind++) {
            x.body(kind);
            x.keep(0, kind);
            for (int k = 0; k < 8; k++) {
                boolean under = false;
                for (int up : above[kind]) {
                    under |= up == k;
                }
                due.is("kind " + kind + " taken for " + k, x.taken(0, k), under ? kind : -12);
            }
        }
        due.is("kind 8", x.taken(0, 8), -1);
        due.is("kind -1", x.taken(0, -1), -1);
        due.is("shelf 6", x.taken(6, 0), -1);
        due.is("shelf -1", x.taken(-1, 0), -1);
        due.is("nothing", x.taken(1, 0), -11);
        due.is("nothing, kind 8", x.taken(1, 8), -1);
        x.row(1, 0, 1);
        due.is("a row", x.taken(1, 0), -12);
    }

    private static void counts() {
        FootstepsAhead x = DaysTest.twins();
        x.feed('n');
        x.feed('n');
        x.feed('n');
        x.mend(0, 0, 1);
        x.mend(0, 0, 2);
        x.mend(0, 0, 3);
        x.mend(0, 0, 4);
        x.mend(0, 0, 5);
        x.body(3);
        x.act(0, 3, 1);
        int[] want = {2, 4, 3, 5, 1, 7};
        for (int what = 0; what < want.length; what++) {
            due.is("count " + what, x.count(what), want[what]);
        }
        due.is("count -1", x.count(-1), -1);
        due.is("count 6", x.count(6), -1);
    }
}
