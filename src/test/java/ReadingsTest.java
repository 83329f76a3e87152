/** Promises 17 to 20: read, look, cheapest, guard. */
public final class ReadingsTest {
    private static final Due due = new Due("ReadingsTest");
    private static final String NONE_HOLDS = "k=0?n;!n";

    public static void main(String[] args) {
        reading();
        refusals();
        looking();
        bestLooks();
        cheapest();
        guards();
        lateGuards();
        due.end();
    }

    private static void reads(FootstepsAhead x, String call, int many, int first, int walkers) {
        due.is(call + " how many", x.read(0, 0), many);
        due.is(call + " first", x.read(0, 1), first);
        due.is(call + " walkers", x.read(0, 2), walkers);
    }

    private static void reading() {
        FootstepsAhead x = DaysTest.twins(); // days 1 and 4 hold
        Due.row(x, 0, 1);
        reads(x, "nothing read", 2, 1, 0);
        Due.row(x, 0, 1, 0, 0, 1);
        reads(x, "0's tracks at 0", 1, 4, 3);
        Due.row(x, 0, 1, 0, 0, 2);
        reads(x, "1's tracks at 0", 1, 1, 3);
        Due.row(x, 0, 1, 0, 0, 3);
        reads(x, "both", 0, -2, 0);
        Due.row(x, 0, 1, 0, 0, 0);
        reads(x, "just as seen: none", 0, -2, 0);
        Due.row(x, 0, 1, 1, 4, 1, 2, 4, 2);
        reads(x, "two threes", 1, 4, 3);
        Due.row(x, 0, 1, 1, 4, 1, 2, 4, 1);
        reads(x, "two threes that do not fit", 0, -2, 0);
        Due.row(x, 0, 1, 7, 999, 0);
        reads(x, "nothing there", 2, 1, 0);
        Due.row(x, 0, 1, 7, 999, 31);
        reads(x, "tracks of all", 0, -2, 0);
        Due.walker(x, 6);
        Due.row(x, 0, 1);
        reads(x, "a third that takes one way", 2, 1, 4);
        Due.row(x, 0, 1, 0, 0, 1);
        reads(x, "a third, 0's tracks", 1, 4, 7);
        Due.law(x, NONE_HOLDS);
        Due.row(x, 0, 1);
        reads(x, "none holds", 0, -2, 0);
        Due.law(x, "n;n");
        int[] full = new int[60];
        for (int i = 0; i < 60; i += 3) {
            full[i] = 7;
            full[i + 1] = i;
        }
        Due.row(x, 0, 1, full);
        reads(x, "20 threes", 2, 1, 4);
        x.put(0, 59, 1);
        reads(x, "20 threes, the last does not fit", 0, -2, 0);
    }

    private static void refusals() {
        FootstepsAhead x = DaysTest.twins();
        Due.row(x, 1, 0, 1, 2, 3);
        Due.row(x, 2, 2, 1, 2, 3);
        x.body(0);
        x.keep(3, 0);
        int[][] rows = {{-1, -1}, {6, -1}, {0, -11}, {1, -12}, {2, -12}, {3, -12}};
        for (int[] row : rows) {
            for (int what = 0; what < 3; what++) {
                due.is("read " + row[0] + " " + what, x.read(row[0], what), row[1]);
            }
            due.is("look " + row[0], x.look(row[0]), row[1]);
        }
        due.is("what -1, nothing there", x.read(0, -1), -1);
        due.is("what 3, nothing there", x.read(0, 3), -1);
        int[][] unsound = {
            {1}, {1, 2}, {1, 2, 3, 4}, {8, 0, 0}, {-1, 0, 0}, {0, -1, 0}, {0, 1000, 0}, {0, 0, -1}, {0, 0, 32},
            {0, 0, 1, 8, 0, 0}, {0, 0, 1, 0, 0}, {7, 7, 7, 0, 0, 32},
        };
        for (int[] row : unsound) {
            Due.row(x, 0, 1, row);
            due.is("read unsound", x.read(0, 0), -5);
            due.is("read unsound 2", x.read(0, 2), -5);
            due.is("look unsound", x.look(0), -5);
            due.is("what 3 of unsound", x.read(0, 3), -1);
        }
    }

    private static void looking() {
        FootstepsAhead x = DaysTest.twins();
        Due.row(x, 0, 1);
        due.is("look at the start", x.look(0), 0);
        Due.row(x, 0, 1, 0, 0, 1);
        due.is("one fits", x.look(0), -2);
        Due.row(x, 0, 1, 0, 0, 3);
        due.is("none fits", x.look(0), -2);
        Due.row(x, 0, 1);
        x.mend(0, 1, 30);
        x.mend(1, 1, 30);
        due.is("both start later", x.look(0), 251);
        x.mend(0, 3, 1);
        x.mend(1, 3, 4); // places 0 and 1
        due.is("place 2 is as far as before", x.look(0), 241);
        x.undo();
        x.mend(2, 3, 3); // places 0 and 2
        due.is("place 2 is nearer", x.look(0), 232);
        x.undo();
        x.mend(0, 1, 65);
        x.mend(1, 1, 65);
        due.is("minute 60", x.look(0), 601);
        x.mend(0, 1, 66);
        x.mend(1, 1, 66);
        due.is("minute 61 is none", x.look(0), 0);
    }

    /** Two pairs of twins, who see nothing of each other, hold on four days. */
    private static void bestLooks() {
        FootstepsAhead x = new FootstepsAhead();
        for (int w = 0; w < 4; w++) {
            int home = w / 2 * 4;
            Due.walker(x, home, home + 1, home);
            Due.way(x, w, home, home + 2);
        }
        Due.row(x, 0, 1);
        due.is("four hold", x.read(0, 0), 4);
        due.is("by halves at best", x.look(0), 0);
        Due.row(x, 0, 1, 0, 0, 1);
        due.is("two are left", x.read(0, 0), 2);
        due.is("the other pair's place", x.look(0), 4);
        FootstepsAhead y = new FootstepsAhead();
        for (int w = 0; w < 4; w++) {
            int home = w / 2 * 4;
            Due.walker(y, home, 3, home);
            Due.way(y, w, home, 7);
        }
        for (int w = 2; w < 4; w++) {
            y.mend(w, 1, 1);
        }
        Due.row(y, 0, 1);
        due.is("all hold", y.read(0, 0), 4);
        due.is("place 3 parts all four, once both may be seen there", y.look(0), 3);
    }

    private static void cheapest() {
        FootstepsAhead x = DaysTest.twins();
        int[][] rows = {{0, 2, 0, 4}, {0, 1, 0, 1}, {1, 2, 0, 1}, {0, 0, -2, -2}, {0, 7, 0, 1}};
        cheapestRows(x, rows);
        Due.law(x, "1");
        cheapestRows(x, new int[][] {{0, 2, 10, 4}, {1, 2, 10, 1}, {0, 1, 0, 5}});
        x.mend(0, 2, 99);
        cheapestRows(x, new int[][] {{0, 2, 99, 4}, {1, 2, 10, 1}});
        x.mend(0, 2, 0);
        cheapestRows(x, new int[][] {{0, 2, 0, 4}, {0, 1, 0, 5}, {1, 1, 0, 4}});
        x.mend(1, 2, 0);
        cheapestRows(x, new int[][] {{0, 2, 0, 0}, {0, 7, 0, 0}});
        Due.law(x, NONE_HOLDS);
        x.mend(0, 2, 5);
        x.mend(1, 2, 6);
        cheapestRows(x, new int[][] {{0, 7, 5, 0}, {0, 1, 5, 5}, {1, 2, 5, 0}});
        x.mend(0, 2, 7);
        cheapestRows(x, new int[][] {{0, 7, 6, 1}, {0, 2, 6, 4}});
        due.is("nobody", x.cheapest(2, 0, 0), -1);
        due.is("nobody below", x.cheapest(-1, 0, 0), -1);
        due.is("place 8", x.cheapest(0, 8, 0), -1);
        due.is("place -1", x.cheapest(0, -1, 0), -1);
        due.is("what 2", x.cheapest(0, 0, 2), -1);
        due.is("what -1", x.cheapest(0, 0, -1), -1);
    }

    private static void cheapestRows(FootstepsAhead x, int[][] rows) {
        for (int[] row : rows) {
            due.is("cheapest " + row[0] + " " + row[1] + " 0", x.cheapest(row[0], row[1], 0), row[2]);
            due.is("cheapest " + row[0] + " " + row[1] + " 1", x.cheapest(row[0], row[1], 1), row[3]);
        }
    }

    private static void guards() {
        FootstepsAhead x = DaysTest.twins();
        guard(x, 1, 2, 0);
        guard(x, 3, 2, 0);
        guard(x, 0, 0, 0);
        x.mend(0, 1, 30);
        x.mend(1, 1, 30);
        guard(x, 1, 2, 300);
        guard(x, 2, 2, 300);
        guard(x, 0, 0, 0);
        Due.walker(x, 5);
        guard(x, 4, 2, 5);
        guard(x, 7, 2, 5);
        guard(x, 3, 2, 300);
        due.is("bits of nobody", x.guard(8, 0), -1);
        due.is("below", x.guard(-1, 0), -1);
        due.is("what 2", x.guard(0, 2), -1);
        due.is("what -1", x.guard(0, -1), -1);
        Due.law(x, NONE_HOLDS);
        guard(x, 3, -2, -2);
        guard(x, 0, -2, -2);
        due.is("bits of nobody, none holds", x.guard(8, 0), -1);
    }

    private static void guard(FootstepsAhead x, int walkers, int many, int where) {
        due.is("guard " + walkers + " 0", x.guard(walkers, 0), many);
        due.is("guard " + walkers + " 1", x.guard(walkers, 1), where);
    }

    /** Days 1 and 4 hold; only in its last minute is 0 in one place on both. */
    private static void lateGuards() {
        FootstepsAhead x = new FootstepsAhead();
        Due.walker(x, 0, 1, 0, 1, 0, 1, 0, 7);
        Due.way(x, 0, 2, 4, 2, 3, 2, 3, 2, 7);
        Due.walker(x, 4, 0);
        Due.way(x, 1, 4, 5);
        x.mend(0, 1, 200);
        x.mend(1, 1, 200);
        x.mend(0, 0, 60);
        x.mend(1, 3, 30);
        x.mend(23, 3, 30);
        x.mend(24, 3, 30);
        x.mend(7, 3, 20);
        x.mend(27, 3, 20);
        Due.law(x, NONE_HOLDS);
        due.is("two hold", x.holding(-1), 2);
        due.is("1 holds", x.holding(0), 1);
        due.is("4 holds", x.holding(1), 4);
        guard(x, 1, 2, 4007);
        guard(x, 3, 2, 2004);
        x.mend(7, 3, 21);
        x.mend(27, 3, 21);
        guard(x, 1, 1, 2000);
        guard(x, 2, 2, 2004);
    }
}
