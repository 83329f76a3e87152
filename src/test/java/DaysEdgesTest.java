/** Promises 9 to 16, and what the Terms say of DAYS: each edge by the words that name it. */
public final class DaysEdgesTest {
    private static final Due due = new Due("DaysEdgesTest");
    private static final String NONE_HOLDS = "k=0?n;!n";

    public static void main(String[] args) {
        byFours();
        waysThatAreThere();
        theLastDay();
        holdsIfAllTake();
        nobodysDay();
        howManyHold();
        byNumbers();
        holdingNot();
        holdingBad();
        dayBad();
        besideCosts();
        whereNot();
        whereBad();
        seesBits();
        seesByEachWay();
        seesBad();
        takesByAToldDay();
        takesBad();
        meetPairs();
        meetFirst();
        meetNot();
        meetBad();
        surePlace();
        sureNotTheSame();
        sureInNone();
        sureNoneHolds();
        sureBad();
        followSteps();
        followRound();
        followComesAgain();
        followBad();
        askingChangesNothing();
        due.end();
    }

    private static FootstepsAhead twins() {
        return DaysTest.twins(); // days 1 and 4 hold
    }

    private static void byFours() {
        due.on("a number, by fours: WALKER 0's WAY counts 1, the next one's 4, then 16, 64, 256.");
        FootstepsAhead x = new FootstepsAhead();
        int[] counts = {1, 4, 16, 64, 256};
        for (int walker = 0; walker < 5; walker++) {
            Due.walker(x, 0);
            for (int way = 1; way < 4; way++) {
                Due.way(x, walker, way);
            }
        }
        for (int walker = 0; walker < 5; walker++) {
            for (int way = 0; way < 4; way++) {
                due.is("WALKER " + walker + " by WAY " + way, x.where(way * counts[walker], walker, 0), way);
                due.is("the next one's way", x.where(way * counts[walker], (walker + 1) % 5, 0), 0);
            }
        }
    }

    private static void waysThatAreThere() {
        due.on("---- days (0 .. 1023, of WAYS that are there).");
        FootstepsAhead x = twins();
        int[] days = {0, 1, 4, 5};
        for (int day : days) {
            due.is("day " + day, x.day(day, 1) >= 0 ? 1 : 0, 1);
        }
        int[] none = {2, 3, 6, 7, 8, 12, 16, 17, 64, 256, 1023};
        for (int day : none) {
            due.is("day " + day, x.day(day, 1), -1);
        }
        Due.way(x, 0, 6);
        due.is("day 2 by a third way", x.day(2, 1) >= 0 ? 1 : 0, 1);
        due.is("day 3 without a fourth", x.day(3, 1), -1);
        Due.walker(x, 6);
        due.is("day 16 by one way of a third walker", x.day(16, 1), -1);
        Due.way(x, 2, 7);
        due.is("day 16 by two", x.day(16, 1) >= 0 ? 1 : 0, 1);
        due.is("day 32 by two", x.day(32, 1), -1);
    }

    private static FootstepsAhead all() {
        FootstepsAhead x = new FootstepsAhead();
        for (int walker = 0; walker < 5; walker++) {
            Due.walker(x, 0);
            for (int way = 1; way < 4; way++) {
                Due.way(x, walker, way);
            }
        }
        return x;
    }

    private static void theLastDay() {
        due.on("days (0 .. 1023, of WAYS that are there)");
        FootstepsAhead x = all();
        int[] none = {-1, -1024, 1024, 1025, 2047, Integer.MAX_VALUE, Integer.MIN_VALUE};
        for (int day : none) {
            due.is("day " + day, x.day(day, 0), -1);
            due.is("where " + day, x.where(day, 0, 0), -1);
            due.is("sees " + day, x.sees(day, 0, 0), -1);
            due.is("takes " + day, x.takes(day, 0), -1);
            due.is("meet " + day, x.meet(day, 0), -1);
            due.is("follow " + day, x.follow(day, 0), -1);
        }
        due.is("day 1023", x.day(1023, 0), 0);
        due.is("day 1023 costs", x.day(1023, 1), 50);
        due.is("where 1023", x.where(1023, 4, 0), 3);
        due.is("meet 1023", x.meet(1023, 0), 10);
        due.is("follow 1023", x.follow(1023, 2), 0);
        Due.law(x, "3");
        due.is("1023 holds", x.holding(0), 1023);
    }

    private static void holdsIfAllTake() {
        due.on("It HOLDS, if each takes just that WAY, all TRACKS being as by that DAY.");
        FootstepsAhead x = twins();
        int[] holds = {0, 1, -1, -1, 1, 0};
        for (int day = 0; day < holds.length; day++) {
            due.is("day " + day, x.day(day, 0), holds[day]);
        }
        Due.law(x, "1");
        due.is("none takes its way", x.day(0, 0), 0);
        due.is("WALKER 0 alone does", x.day(1, 0), 0);
        due.is("WALKER 1 alone does", x.day(4, 0), 0);
        due.is("both do", x.day(5, 0), 1);
    }

    private static void nobodysDay() {
        due.on("A DAY: one WAY for each WALKER:");
        FootstepsAhead x = new FootstepsAhead();
        due.is("0 holds", x.day(0, 0), 1);
        due.is("0 costs", x.day(0, 1), 0);
        due.is("1 is none", x.day(1, 0), -1);
        due.is("one holds", x.holding(-1), 1);
        due.is("it is 0", x.holding(0), 0);
        due.is("no second", x.holding(1), -2);
        Due.walker(x, 0);
        for (int way = 1; way < 4; way++) {
            Due.way(x, 0, way);
        }
        for (int way = 0; way < 4; way++) {
            Due.law(x, "" + way);
            due.is("of one WALKER one holds", x.holding(-1), 1);
            due.is("by way " + way, x.holding(0), way);
        }
    }

    private static void howManyHold() {
        due.on("HOLDING: how many (k -1), the k-th. BAD; NOT.");
        FootstepsAhead x = twins();
        due.is("two", x.holding(-1), 2);
        Due.law(x, "0");
        due.is("one", x.holding(-1), 1);
        Due.law(x, NONE_HOLDS);
        due.is("none", x.holding(-1), 0);
    }

    private static void byNumbers() {
        due.on("HOLDING: how many DAYS do; the k-th (by numbers); NOT.");
        FootstepsAhead x = new FootstepsAhead();
        for (int walker = 0; walker < 4; walker++) {
            int home = walker / 2 * 4;
            Due.walker(x, home, home + 1, home);
            Due.way(x, walker, home, home + 2);
        }
        int[] days = {1 + 16, 4 + 16, 1 + 64, 4 + 64};
        due.is("four", x.holding(-1), 4);
        for (int k = 0; k < 4; k++) {
            due.is("the " + k, x.holding(k), days[k]);
        }
        due.is("no fifth", x.holding(4), -2);
    }

    private static void holdingNot() {
        due.on("the k-th (by numbers); NOT.");
        FootstepsAhead x = twins();
        due.is("the last", x.holding(1), 4);
        due.is("behind the last", x.holding(2), -2);
        due.is("far behind", x.holding(Integer.MAX_VALUE), -2);
        due.is("1024", x.holding(1024), -2);
        Due.law(x, NONE_HOLDS);
        due.is("the first of none", x.holding(0), -2);
    }

    private static void holdingBad() {
        due.on("HOLDING: how many (k -1), the k-th. BAD; NOT.");
        FootstepsAhead x = twins();
        due.is("-2", x.holding(-2), -1);
        due.is("far below", x.holding(Integer.MIN_VALUE), -1);
    }

    private static void dayBad() {
        due.on("Whether a DAY HOLDS (what 0: 1, 0), what it costs BESIDE (1). BAD.");
        FootstepsAhead x = twins();
        due.is("does not", x.day(0, 0), 0);
        due.is("does", x.day(1, 0), 1);
        due.is("what -1", x.day(1, -1), -1);
        due.is("what 2", x.day(1, 2), -1);
        due.is("what far off", x.day(1, Integer.MAX_VALUE), -1);
        due.is("day -1", x.day(-1, 1), -1);
        due.is("day 2", x.day(2, 0), -1);
    }

    private static void besideCosts() {
        due.on("a DAY on which some take another WAY than THE LAW gives costs their FALLS together");
        FootstepsAhead x = twins();
        x.mend(0, 2, 3);
        x.mend(1, 2, 99);
        due.is("both", x.day(0, 1), 102);
        due.is("neither", x.day(1, 1), 0);
        Due.law(x, "1");
        due.is("WALKER 1", x.day(1, 1), 99);
        due.is("WALKER 0", x.day(4, 1), 3);
        x.mend(0, 2, 0);
        due.is("WALKER 0 at no cost", x.day(4, 1), 0);
        due.is("but it does not hold", x.day(4, 0), 0);
    }

    private static void whereNot() {
        due.on("by a told DAY a WALKER in a minute: the PLACE it is in; NOT.");
        FootstepsAhead x = twins();
        due.is("at 0", x.where(0, 0, 0), 0);
        due.is("between", x.where(0, 0, 1), -2);
        due.is("behind its way", x.where(0, 0, 11), -2);
        due.is("in the last minute", x.where(0, 0, 999), -2);
        x.mend(0, 1, 6);
        due.is("ahead of its start", x.where(0, 0, 5), -2);
    }

    private static void whereBad() {
        due.on("WHERE. BAD (minutes 0 .. 999); NOT.");
        FootstepsAhead x = twins();
        due.is("minute 0", x.where(0, 1, 0), 0);
        due.is("minute 999", x.where(0, 1, 999), -2);
        int[] minutes = {-1, 1000, Integer.MAX_VALUE, Integer.MIN_VALUE};
        for (int minute : minutes) {
            due.is("minute " + minute, x.where(0, 0, minute), -1);
        }
        int[] walkers = {-1, 2, 5, Integer.MAX_VALUE, Integer.MIN_VALUE};
        for (int walker : walkers) {
            due.is("walker " + walker, x.where(0, walker, 0), -1);
        }
        due.is("day 2", x.where(2, 0, 0), -1);
    }

    private static void seesBits() {
        due.on("by a told DAY which TRACKS (bits) are in a PLACE in a minute.");
        FootstepsAhead x = new FootstepsAhead();
        for (int walker = 0; walker < 5; walker++) {
            Due.walker(x, 2, 3);
            x.mend(walker, 0, walker);
        }
        due.is("5 ahead", x.sees(0, 3, 0), 0);
        due.is("4 ahead", x.sees(0, 3, 1), 16);
        due.is("3 ahead", x.sees(0, 3, 2), 24);
        due.is("2 ahead", x.sees(0, 3, 3), 28);
        due.is("1 ahead", x.sees(0, 3, 4), 30);
        due.is("as they come", x.sees(0, 3, 5), 0);
        x.mend(0, 0, 60);
        due.is("all", x.sees(0, 3, 4), 31);
    }

    private static void seesByEachWay() {
        due.on("by a told DAY which TRACKS (bits) are in a PLACE in a minute.");
        FootstepsAhead x = new FootstepsAhead();
        for (int walker = 0; walker < 5; walker++) {
            Due.walker(x, 0, 4);
            for (int way = 1; way < 4; way++) {
                Due.way(x, walker, 0, 4 + way);
            }
        }
        for (int way = 1; way < 4; way++) {
            due.is("all by way " + way, x.sees(341 * way, 4 + way, 4), 31);
            due.is("none by way 0", x.sees(341 * way, 4, 4), 0);
            for (int walker = 0; walker < 5; walker++) {
                int day = way << 2 * walker;
                due.is("WALKER " + walker + " alone by way " + way, x.sees(day, 4 + way, 4), 1 << walker);
                due.is("all others by way 0", x.sees(day, 4, 4), 31 - (1 << walker));
            }
        }
    }

    private static void seesBad() {
        due.on("SEES. BAD.");
        FootstepsAhead x = twins();
        int[] places = {-1, 8, Integer.MAX_VALUE, Integer.MIN_VALUE};
        for (int place : places) {
            due.is("place " + place, x.sees(0, place, 0), -1);
        }
        int[] minutes = {-1, 1000, Integer.MAX_VALUE, Integer.MIN_VALUE};
        for (int minute : minutes) {
            due.is("minute " + minute, x.sees(0, 0, minute), -1);
        }
        due.is("minute 999", x.sees(0, 7, 999), 0);
        due.is("day 2", x.sees(2, 0, 0), -1);
        due.is("place 0 in minute 0", x.sees(0, 0, 0), 3);
    }

    private static void takesByAToldDay() {
        due.on("TAKES: which WAY THE LAW gives a WALKER by a told DAY.");
        FootstepsAhead x = twins();
        int[][] rows = {{0, 1, 1}, {1, 1, 0}, {4, 0, 1}, {5, 0, 0}};
        for (int[] row : rows) {
            due.is("WALKER 0 by " + row[0], x.takes(row[0], 0), row[1]);
            due.is("WALKER 1 by " + row[0], x.takes(row[0], 1), row[2]);
        }
    }

    private static void takesBad() {
        due.on("TAKES. BAD.");
        FootstepsAhead x = twins();
        int[] walkers = {-1, 2, 5, Integer.MAX_VALUE, Integer.MIN_VALUE};
        for (int walker : walkers) {
            due.is("walker " + walker, x.takes(0, walker), -1);
        }
        int[] days = {-1, 2, 16, 1024, Integer.MIN_VALUE};
        for (int day : days) {
            due.is("day " + day, x.takes(day, 0), -1);
        }
        due.is("of nobody", new FootstepsAhead().takes(0, 0), -1);
    }

    private static void meetPairs() {
        due.on("by a told DAY how many times two WALKERS are in one PLACE in one minute;");
        FootstepsAhead x = twins();
        due.is("thrice", x.meet(0, 0), 3);
        due.is("once", x.meet(1, 0), 1);
        due.is("twice", x.meet(5, 0), 2);
        FootstepsAhead y = new FootstepsAhead();
        int[] pairs = {0, 1, 3, 6, 10};
        for (int walker = 0; walker < 5; walker++) {
            Due.walker(y, 4);
            due.is("so many at one place: " + (walker + 1), y.meet(0, 0), pairs[walker]);
        }
        y.mend(4, 1, 1);
        due.is("one comes a minute later", y.meet(0, 0), 6);
        FootstepsAhead z = new FootstepsAhead();
        Due.walker(z, 4, 4, 4, 4, 4, 4, 4, 4);
        Due.walker(z, 4, 4, 4, 4, 4, 4, 4, 4);
        due.is("eight times", z.meet(0, 0), 8);
        z.mend(1, 1, 7);
        due.is("the last of one and the first of the other", z.meet(0, 0), 1);
        z.mend(1, 1, 8);
        due.is("a minute too late", z.meet(0, 0), 0);
    }

    private static void meetFirst() {
        due.on("the first such minute;");
        FootstepsAhead x = twins();
        due.is("in 0", x.meet(0, 1), 0);
        x.mend(0, 1, 10);
        due.is("in 10", x.meet(0, 1), 10);
        FootstepsAhead y = new FootstepsAhead();
        Due.walker(y, 0, 1);
        Due.walker(y, 2, 1);
        Due.walker(y, 3, 3, 2, 2);
        Due.walker(y, 4, 3);
        y.mend(23, 3, 1);
        y.mend(34, 3, 1);
        due.is("the last two meet first", y.meet(0, 1), 1);
        y.mend(34, 3, 2);
        due.is("not any more", y.meet(0, 1), 5);
        y.mend(0, 1, 200);
        y.mend(1, 1, 200);
        due.is("the latest start", y.meet(0, 1), 205);
        FootstepsAhead z = new FootstepsAhead();
        for (int walker = 0; walker < 5; walker++) {
            Due.walker(z, walker, 5, 6);
            z.mend(walker, 1, walker < 3 ? 3 * walker : 9);
        }
        due.is("the last two of five", z.meet(0, 1), 14);
        due.is("in two places", z.meet(0, 0), 2);
    }

    private static void meetNot() {
        due.on("the first minute (1; NOT). BAD.");
        FootstepsAhead x = twins();
        x.mend(0, 1, 5);
        due.is("never", x.meet(0, 0), 0);
        due.is("no first", x.meet(0, 1), -2);
        FootstepsAhead y = new FootstepsAhead();
        due.is("nobody", y.meet(0, 0), 0);
        due.is("nobody's first", y.meet(0, 1), -2);
        Due.walker(y, 0);
        due.is("one meets nobody", y.meet(0, 0), 0);
        due.is("one's first", y.meet(0, 1), -2);
    }

    private static void meetBad() {
        due.on("MEET: how many times (what 0), the first minute (1; NOT). BAD.");
        FootstepsAhead x = twins();
        due.is("what -1", x.meet(0, -1), -1);
        due.is("what 2", x.meet(0, 2), -1);
        due.is("day 2", x.meet(2, 0), -1);
        due.is("day -1", x.meet(-1, 1), -1);
    }

    private static void surePlace() {
        due.on("SURE: the PLACE in which a WALKER is in a minute on all DAYS that HOLD");
        FootstepsAhead x = twins();
        due.is("by both", x.sure(0, 0), 0);
        Due.law(x, "1");
        due.is("by one", x.sure(0, 5), 2);
        due.is("of 1 by one", x.sure(1, 5), 2);
    }

    private static void sureNotTheSame() {
        due.on("(-3: not in the same, or in none;");
        FootstepsAhead x = twins();
        due.is("in 1 or 2", x.sure(0, 5), -3);
        due.is("in none or 0", x.sure(0, 10), -3);
        due.is("in 0 or none", x.sure(1, 10), -3);
    }

    private static void sureInNone() {
        due.on("or in none; NOT: none HOLDS)");
        FootstepsAhead x = twins();
        due.is("in none by both", x.sure(0, 1), -3);
        due.is("in the last minute", x.sure(0, 999), -3);
        Due.law(x, "1");
        due.is("in none by one", x.sure(0, 1), -3);
    }

    private static void sureNoneHolds() {
        due.on("NOT: none HOLDS)");
        FootstepsAhead x = twins();
        Due.law(x, NONE_HOLDS);
        due.is("in 0 by any day", x.sure(0, 0), -2);
        due.is("in none by any day", x.sure(0, 999), -2);
        due.is("nobody", x.sure(2, 0), -1);
        due.is("no minute", x.sure(0, 1000), -1);
    }

    private static void sureBad() {
        due.on("SURE. BAD; NOT; -3.");
        FootstepsAhead x = twins();
        int[] walkers = {-1, 2, 5, Integer.MAX_VALUE, Integer.MIN_VALUE};
        for (int walker : walkers) {
            due.is("walker " + walker, x.sure(walker, 0), -1);
        }
        int[] minutes = {-1, 1000, Integer.MAX_VALUE, Integer.MIN_VALUE};
        for (int minute : minutes) {
            due.is("minute " + minute, x.sure(0, minute), -1);
        }
    }

    private static void follows(FootstepsAhead x, int day, int steps, int round, int again) {
        due.is("steps from " + day, x.follow(day, 0), steps);
        due.is("round from " + day, x.follow(day, 1), round);
        due.is("again from " + day, x.follow(day, 2), again);
    }

    private static void followSteps() {
        due.on("behind how many steps a DAY comes again (1 on) from a told DAY on;");
        FootstepsAhead x = twins();
        follows(x, 1, 1, 1, 1);
        follows(x, 4, 1, 1, 4);
        follows(new FootstepsAhead(), 0, 1, 1, 0);
        Due.law(x, "1");
        follows(x, 5, 1, 1, 5);
        follows(x, 0, 2, 1, 5);
    }

    private static void followRound() {
        due.on("in how long a round.");
        FootstepsAhead x = twins();
        follows(x, 0, 2, 2, 0);
        follows(x, 5, 2, 2, 5);
        Due.law(x, NONE_HOLDS);
        follows(x, 0, 4, 4, 0);
        follows(x, 1, 4, 4, 1);
    }

    /** From two of the days the round is come to only behind some steps. */
    private static void followComesAgain() {
        due.on("the DAY that comes again first (2). BAD.");
        FootstepsAhead x = twins();
        Due.way(x, 0, 0, 3);
        follows(x, 2, 2, 1, 1);
        follows(x, 6, 3, 2, 0);
    }

    private static void followBad() {
        due.on("FOLLOW: steps (what 0), the round (1), the DAY that comes again first (2). BAD.");
        FootstepsAhead x = twins();
        due.is("what -1", x.follow(0, -1), -1);
        due.is("what 3", x.follow(0, 3), -1);
        due.is("what far off", x.follow(0, Integer.MAX_VALUE), -1);
        due.is("day 2", x.follow(2, 0), -1);
        due.is("day -1", x.follow(-1, 0), -1);
    }

    private static void askingChangesNothing() {
        due.on("What is answered so changes nothing.");
        FootstepsAhead x = twins();
        FootstepsAhead y = twins();
        due.is("holding BAD", x.holding(-2), -1);
        due.is("holding NOT", x.holding(2), -2);
        due.is("day BAD", x.day(2, 0), -1);
        due.is("where BAD", x.where(0, 2, 0), -1);
        due.is("where NOT", x.where(0, 0, 1), -2);
        due.is("sees BAD", x.sees(0, 8, 0), -1);
        due.is("takes BAD", x.takes(0, 2), -1);
        due.is("meet BAD", x.meet(0, 2), -1);
        due.is("sure BAD", x.sure(2, 0), -1);
        due.is("sure -3", x.sure(0, 1), -3);
        due.is("follow BAD", x.follow(0, 3), -1);
        Alike.ask(due, "asked of days", x, y);
    }
}
