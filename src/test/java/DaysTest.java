/** Promises 9 to 16: holding, day, where, sees, takes, meet, sure, follow. */
public final class DaysTest {
    private static final Due due = new Due("DaysTest");
    private static final String NONE_HOLDS = "k=0?n;!n";

    public static void main(String[] args) {
        nobody();
        holding();
        costs();
        where();
        sees();
        takes();
        meetings();
        sure();
        follow();
        fullWorld();
        due.end();
    }

    /** Two walkers alike: by WAY 0 one comes back to 0 in minute 10, by WAY 1 it does not. */
    static FootstepsAhead twins() {
        FootstepsAhead x = new FootstepsAhead();
        for (int w = 0; w < 2; w++) {
            Due.walker(x, 0, 1, 0);
            Due.way(x, w, 0, 2);
        }
        return x;
    }

    private static void nobody() {
        FootstepsAhead x = new FootstepsAhead();
        due.is("nobody: day 0 holds", x.day(0, 0), 1);
        due.is("nobody: day 0 costs", x.day(0, 1), 0);
        due.is("nobody: day 1", x.day(1, 0), -1);
        due.is("nobody: holding 1", x.holding(1), -2);
        due.is("nobody: sees", x.sees(0, 7, 999), 0);
        due.is("nobody: follow", x.follow(0, 0), 1);
    }

    private static void holding() {
        FootstepsAhead x = twins();
        due.is("holding -1", x.holding(-1), 2);
        due.is("holding 0", x.holding(0), 1);
        due.is("holding 1", x.holding(1), 4);
        due.is("holding 2", x.holding(2), -2);
        due.is("holding far", x.holding(Integer.MAX_VALUE), -2);
        due.is("holding -2", x.holding(-2), -1);
        due.is("holding far below", x.holding(Integer.MIN_VALUE), -1);
        Due.law(x, "!n");
        due.is("by another law -1", x.holding(-1), 2);
        due.is("by another law 0", x.holding(0), 0);
        due.is("by another law 1", x.holding(1), 5);
        Due.law(x, NONE_HOLDS);
        due.is("none holds -1", x.holding(-1), 0);
        due.is("none holds 0", x.holding(0), -2);
        Due.law(x, "n");
        x.mend(0, 0, 9);
        due.is("shorter shoes", x.holding(-1), 1);
        due.is("shorter shoes 0", x.holding(0), 1);
        x.undo();
        due.is("undone", x.holding(-1), 2);
        x.redo();
        due.is("done again", x.holding(-1), 1);
        x.undo();
        x.mend(1, 3, 6);
        due.is("longer ways", x.holding(-1), 1);
        due.is("longer ways 0", x.holding(0), 0);
        x.undo();
        x.mend(1, 1, 10);
        due.is("1 starts as 0 is back", x.holding(-1), 1);
        due.is("so nobody sees any tracks but 0 those of 1", x.holding(0), 1);
        x.undo();
        Due.walker(x, 0);
        due.is("a third", x.holding(-1), 2);
        due.is("a third 1", x.holding(1), 4);
        Due.way(x, 2, 5);
        due.is("it sees one of them", x.holding(0), 17);
    }

    private static void costs() {
        FootstepsAhead x = twins();
        int[][] rows = {{0, 0, 20}, {1, 1, 0}, {4, 1, 0}, {5, 0, 20}};
        for (int[] row : rows) {
            due.is("day holds " + row[0], x.day(row[0], 0), row[1]);
            due.is("day costs " + row[0], x.day(row[0], 1), row[2]);
        }
        x.mend(0, 2, 3);
        x.mend(1, 2, 40);
        due.is("both beside", x.day(0, 1), 43);
        Due.law(x, "1");
        due.is("0 beside", x.day(4, 1), 3);
        due.is("1 beside", x.day(1, 1), 40);
        due.is("nobody beside", x.day(5, 1), 0);
        x.mend(0, 2, 0);
        due.is("beside at no cost", x.day(4, 1), 0);
        due.is("does not hold for that", x.day(4, 0), 0);
        int[] none = {-1, 2, 3, 6, 8, 16, 20, 64, 1023, 1024, 1025, Integer.MAX_VALUE, Integer.MIN_VALUE};
        for (int day : none) {
            due.is("no day " + day, x.day(day, 0), -1);
            due.is("where: no day " + day, x.where(day, 0, 0), -1);
            due.is("sees: no day " + day, x.sees(day, 0, 0), -1);
            due.is("takes: no day " + day, x.takes(day, 0), -1);
            due.is("meet: no day " + day, x.meet(day, 0), -1);
            due.is("follow: no day " + day, x.follow(day, 0), -1);
        }
        due.is("day what -1", x.day(0, -1), -1);
        due.is("day what 2", x.day(0, 2), -1);
    }

    private static void where() {
        FootstepsAhead x = twins();
        due.is("at the start", x.where(4, 0, 0), 0);
        due.is("between", x.where(4, 0, 4), -2);
        due.is("at 1", x.where(4, 0, 5), 1);
        due.is("back", x.where(4, 0, 10), 0);
        due.is("gone", x.where(4, 0, 11), -2);
        due.is("by the other way", x.where(1, 0, 5), 2);
        due.is("the other", x.where(4, 1, 5), 2);
        due.is("late", x.where(4, 0, 999), -2);
        due.is("too late", x.where(4, 0, 1000), -1);
        due.is("too early", x.where(4, 0, -1), -1);
        due.is("nobody", x.where(4, 2, 0), -1);
        due.is("nobody below", x.where(4, -1, 0), -1);
        x.mend(0, 1, 200);
        due.is("a later start", x.where(4, 0, 0), -2);
        due.is("a later start, back", x.where(4, 0, 210), 0);
        x.mend(10, 3, 30);
        due.is("longer", x.where(4, 0, 230), 1);
        due.is("longer, back", x.where(4, 0, 260), 0);
        x.undo();
        due.is("undone", x.where(4, 0, 210), 0);
        FootstepsAhead y = new FootstepsAhead();
        Due.walker(y, 3, 3, 3, 4, 4);
        int[] places = {3, 3, 3, -2, -2, -2, -2, 4, 4, -2};
        for (int minute = 0; minute < places.length; minute++) {
            due.is("on itself in " + minute, y.where(0, 0, minute), places[minute]);
        }
    }

    private static void sees() {
        FootstepsAhead x = twins();
        due.is("both come back", x.sees(0, 0, 0), 3);
        due.is("only 1 does", x.sees(1, 0, 0), 2);
        due.is("till it is there", x.sees(1, 0, 9), 2);
        due.is("as it is there", x.sees(1, 0, 10), 0);
        due.is("on the way", x.sees(1, 2, 4), 1);
        due.is("on the way, there", x.sees(1, 2, 5), 0);
        due.is("nobody comes", x.sees(1, 3, 0), 0);
        x.mend(0, 0, 4);
        due.is("by shorter shoes", x.sees(0, 1, 0), 2);
        due.is("by shorter shoes, later", x.sees(0, 1, 1), 3);
        x.mend(0, 0, 0);
        due.is("by none", x.sees(0, 1, 4), 2);
        x.mend(0, 0, 60);
        x.mend(0, 1, 60);
        due.is("60 ahead of the start", x.sees(0, 0, 0), 3);
        x.mend(0, 1, 200);
        due.is("too far ahead", x.sees(0, 0, 139), 0);
        due.is("just as far", x.sees(0, 0, 140), 1);
        due.is("place 8", x.sees(0, 8, 0), -1);
        due.is("place -1", x.sees(0, -1, 0), -1);
        due.is("minute 999", x.sees(0, 7, 999), 0);
        due.is("minute 1000", x.sees(0, 7, 1000), -1);
        due.is("minute -1", x.sees(0, 7, -1), -1);
    }

    private static void takes() {
        FootstepsAhead x = twins();
        int[][] rows = {{0, 1, 1}, {1, 1, 0}, {4, 0, 1}, {5, 0, 0}};
        for (int[] row : rows) {
            due.is("takes " + row[0] + " 0", x.takes(row[0], 0), row[1]);
            due.is("takes " + row[0] + " 1", x.takes(row[0], 1), row[2]);
        }
        due.is("nobody", x.takes(0, 2), -1);
        due.is("nobody below", x.takes(0, -1), -1);
        Due.law(x, "-1");
        due.is("the remainder from 0 on", x.takes(0, 0), 1);
        FootstepsAhead y = new FootstepsAhead();
        Due.walker(y, 1, 0);
        Due.way(y, 0, 0);
        Due.walker(y, 2, 1, 0);
        due.is("by the first place of the first way", y.takes(1, 0), 1);
        due.is("own tracks are none", y.takes(1, 1), 0);
    }

    private static void meetings() {
        FootstepsAhead x = twins();
        due.is("meet thrice", x.meet(0, 0), 3);
        due.is("first", x.meet(0, 1), 0);
        due.is("meet once", x.meet(1, 0), 1);
        due.is("meet twice", x.meet(5, 0), 2);
        x.mend(0, 1, 10);
        due.is("as one is back", x.meet(0, 0), 1);
        due.is("first then", x.meet(0, 1), 10);
        x.mend(0, 1, 5);
        due.is("never", x.meet(0, 0), 0);
        due.is("no first", x.meet(0, 1), -2);
        due.is("what -1", x.meet(0, -1), -1);
        due.is("what 2", x.meet(0, 2), -1);
        x.mend(0, 1, 0);
        Due.walker(x, 0);
        due.is("three in one place are three times two", x.meet(1, 0), 3);
        x.mend(0, 1, 10);
        due.is("the first of any two", x.meet(0, 1), 0);
        due.is("all times", x.meet(0, 0), 2);
        x.mend(2, 1, 30);
        due.is("the first of the first two", x.meet(0, 1), 10);
        FootstepsAhead y = new FootstepsAhead();
        Due.walker(y, 0, 1);
        Due.walker(y, 5, 1);
        Due.walker(y, 5, 5);
        due.is("later two meet earlier", y.meet(0, 1), 0);
        due.is("twice in all", y.meet(0, 0), 2);
    }

    private static void sure() {
        FootstepsAhead x = twins();
        due.is("surely at 0", x.sure(0, 0), 0);
        due.is("at 1 or 2", x.sure(0, 5), -3);
        due.is("at 0 or none", x.sure(0, 10), -3);
        due.is("in none", x.sure(0, 3), -3);
        due.is("in none, late", x.sure(1, 999), -3);
        due.is("too late", x.sure(1, 1000), -1);
        due.is("too early", x.sure(1, -1), -1);
        due.is("nobody", x.sure(2, 0), -1);
        Due.law(x, "1");
        due.is("by one day", x.sure(0, 5), 2);
        Due.law(x, NONE_HOLDS);
        due.is("none holds", x.sure(0, 0), -2);
        due.is("none holds, nobody", x.sure(2, 0), -1);
    }

    private static void follow() {
        FootstepsAhead x = twins();
        int[][] rows = {{0, 2, 2, 0}, {5, 2, 2, 5}, {1, 1, 1, 1}, {4, 1, 1, 4}};
        followRows(x, rows);
        Due.law(x, "1");
        followRows(x, new int[][] {{0, 2, 1, 5}, {5, 1, 1, 5}, {1, 2, 1, 5}});
        Due.law(x, NONE_HOLDS);
        followRows(x, new int[][] {{0, 4, 4, 0}, {5, 4, 4, 5}});
        due.is("follow what -1", x.follow(0, -1), -1);
        due.is("follow what 3", x.follow(0, 3), -1);
    }

    private static void followRows(FootstepsAhead x, int[][] rows) {
        for (int[] row : rows) {
            for (int what = 0; what < 3; what++) {
                due.is("follow " + row[0] + " " + what, x.follow(row[0], what), row[what + 1]);
            }
        }
    }

    /** Five walkers with four ways each: all 1024 days. */
    private static void fullWorld() {
        FootstepsAhead x = new FootstepsAhead();
        for (int w = 0; w < 5; w++) {
            Due.walker(x, 0);
            for (int v = 1; v < 4; v++) {
                Due.way(x, w, v, 0);
            }
        }
        due.is("count 1", x.count(1), 20);
        due.is("day 1023", x.day(1023, 1), 0 + 50);
        int[] none = {-1, -2, -1024, 1024, 2047, Integer.MAX_VALUE, Integer.MIN_VALUE};
        for (int day : none) {
            due.is("day " + day, x.day(day, 1), -1);
            due.is("follow " + day, x.follow(day, 1), -1);
        }
        Due.law(x, "k%4");
        due.is("one holds", x.holding(-1), 1);
        due.is("it is", x.holding(0), 0 + 4 + 2 * 16 + 3 * 64 + 0 * 256);
        Due.law(x, "3");
        due.is("the last holds", x.holding(0), 1023);
        due.is("follow", x.follow(0, 2), 1023);
    }
}
