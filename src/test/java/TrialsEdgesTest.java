/** Promises 21 to 24, and what the Terms say of them: each edge by the words that name it. */
public final class TrialsEdgesTest {
    private static final Due due = new Due("TrialsEdgesTest");
    private static final String NONE_HOLDS = "k=0?n;!n";

    public static void main(String[] args) {
        fewestDays();
        likeShoesTheLeast();
        leastLead();
        longestLead();
        shoesByTheLaw();
        atLeastOne();
        shoesNot();
        shoesBad();
        drawnInAPlace();
        alwaysThere();
        feignedToOthersAlone();
        feignedFirst();
        feignedBad();
        floodFromTill();
        floodInItsPlace();
        floodFirst();
        floodBounds();
        floodBad();
        oneToTwentyTimes();
        aheadOfEachWalker();
        seedAtFirst();
        drawnTogether();
        drawnOfNobody();
        drawnBad();
        fiveWalkers();
        triedOnlyChangesNothing();
        refusedChangesNothing();
        due.end();
    }

    private static FootstepsAhead twins() {
        return DaysTest.twins(); // days 1 and 4 hold; who takes WAY 0 comes back to 0 in minute 10
    }

    private static void shoes(FootstepsAhead x, int walker, int lead, int many) {
        due.is("lead of " + walker, x.shoes(walker, 0), lead);
        due.is("how many", x.shoes(walker, 1), many);
    }

    private static void fewestDays() {
        due.on("the LEAD (0 .. 60) of a WALKER by which fewest DAYS, but at least one, HOLD");
        FootstepsAhead x = twins();
        due.is("two hold by 10", x.holding(-1), 2);
        shoes(x, 0, 0, 1);
        shoes(x, 1, 0, 1);
    }

    private static void likeShoesTheLeast() {
        due.on("HOLD (of like ones the least); how many; NOT.");
        FootstepsAhead x = twins();
        Due.law(x, "l=0?0;l=1?0;1");
        shoes(x, 0, 0, 1);
        FootstepsAhead y = twins();
        Due.law(y, "k=0?l>7&l<12;k=1?l>5");
        shoes(y, 0, 0, 1);
    }

    /** WALKERS 1 and 2 hold two days together, if they see nothing of 0, and one, if they do. */
    private static FootstepsAhead oneIfSeen(int minutes) {
        FootstepsAhead x = new FootstepsAhead();
        Due.walker(x, 3, 0);
        for (int walker = 1; walker < 3; walker++) {
            Due.walker(x, 0, 1, 0);
            Due.way(x, walker, 0, 2);
        }
        x.mend(3, 3, minutes);
        Due.law(x, "s%2?1;n");
        return x;
    }

    private static void leastLead() {
        due.on("the LEAD (0 .. 60) of a WALKER");
        FootstepsAhead x = oneIfSeen(1);
        due.is("one holds by 10", x.holding(-1), 1);
        shoes(x, 0, 1, 1);
        x = oneIfSeen(17);
        due.is("two hold by 10", x.holding(-1), 2);
        shoes(x, 0, 17, 1);
        FootstepsAhead y = oneIfSeen(1);
        Due.law(y, "k=0?0;s%2?n%2;1");
        shoes(y, 0, 0, 1);
    }

    private static void longestLead() {
        due.on("the LEAD (0 .. 60) of a WALKER");
        FootstepsAhead x = oneIfSeen(30);
        x.mend(0, 1, 29);
        shoes(x, 0, 59, 1);
        x.mend(0, 1, 30);
        shoes(x, 0, 60, 1);
        x.mend(0, 1, 31);
        shoes(x, 0, 0, 2);
    }

    private static void shoesByTheLaw() {
        due.on("l its LEAD,");
        FootstepsAhead x = new FootstepsAhead();
        Due.walker(x, 5);
        Due.way(x, 0, 5, 0);
        for (int walker = 1; walker < 3; walker++) {
            Due.walker(x, 0, 1, 0);
            Due.way(x, walker, 0, 2);
        }
        Due.law(x, "k=0?l=41;s%2?1;n");
        due.is("two hold by 10", x.holding(-1), 2);
        shoes(x, 0, 41, 1);
        Due.law(x, "l=41&k=0?1;s%2?1;n");
        due.is("two hold by 10", x.holding(-1), 2);
        shoes(x, 0, 41, 1);
        Due.law(x, "l>59?!k;k=0?0;s%2?1;n");
        shoes(x, 0, 60, 1);
    }

    private static void atLeastOne() {
        due.on("fewest DAYS, but at least one, HOLD");
        FootstepsAhead x = oneIfSeen(30);
        x.mend(0, 1, 20);
        Due.law(x, "k=0?0;s%2?1;k=1?n;!n");
        due.is("none holds by 10", x.holding(-1), 0);
        shoes(x, 0, 50, 1);
    }

    private static void shoesNot() {
        due.on("SHOES: the LEAD (what 0), how many (1). BAD; NOT.");
        FootstepsAhead x = oneIfSeen(30);
        x.mend(0, 1, 31);
        Due.law(x, "k=0?0;s%2?1;k=1?n;!n");
        shoes(x, 0, -2, -2);
    }

    private static void shoesBad() {
        due.on("SHOES: the LEAD (what 0), how many (1). BAD; NOT.");
        FootstepsAhead x = twins();
        int[] walkers = {-1, 2, 5, Integer.MAX_VALUE, Integer.MIN_VALUE};
        for (int walker : walkers) {
            shoes(x, walker, -1, -1);
        }
        due.is("what -1", x.shoes(0, -1), -1);
        due.is("what 2", x.shoes(0, 2), -1);
        due.is("of nobody", new FootstepsAhead().shoes(0, 0), -1);
    }

    private static void feigned(FootstepsAhead x, int walker, int place, int many, int first) {
        due.is("how many by " + walker + " in " + place, x.feigned(walker, place, 0), many);
        due.is("the first by " + walker + " in " + place, x.feigned(walker, place, 1), first);
    }

    private static void drawnInAPlace() {
        due.on("with TRACKS of a told WALKER drawn in a PLACE (as if always there): how many DAYS HOLD; the first;");
        FootstepsAhead x = twins();
        feigned(x, 0, 0, 1, 4);
        feigned(x, 1, 0, 1, 1);
        for (int place = 1; place < 8; place++) {
            feigned(x, 0, place, 2, 1);
            feigned(x, 1, place, 2, 1);
        }
    }

    private static void alwaysThere() {
        due.on("(as if always there)");
        FootstepsAhead x = twins();
        x.mend(1, 0, 0);
        x.mend(0, 1, 200);
        due.is("0 sees nobody", x.takes(0, 0), 0);
        due.is("1 sees nobody", x.takes(0, 1), 0);
        feigned(x, 1, 0, 1, 1);
        x.mend(0, 1, 0);
        x.mend(0, 0, 0);
        feigned(x, 0, 0, 1, 4);
        x.mend(1, 1, 200);
        feigned(x, 0, 0, 1, 4);
    }

    private static void feignedToOthersAlone() {
        due.on("the TRACKS of others.");
        FootstepsAhead x = new FootstepsAhead();
        Due.walker(x, 0);
        Due.way(x, 0, 1);
        feigned(x, 0, 0, 1, 0);
        Due.walker(x, 0);
        Due.way(x, 1, 1);
        Due.walker(x, 3);
        Due.way(x, 2, 1);
        feigned(x, 0, 0, 1, 4);
        feigned(x, 1, 0, 1, 1);
        feigned(x, 2, 0, 1, 5);
        feigned(x, 2, 3, 1, 0);
        feigned(x, 0, 3, 1, 16);
    }

    private static void feignedFirst() {
        due.on("FALSE: how many (what 0), the first (1; NOT). BAD.");
        FootstepsAhead x = twins();
        feigned(x, 0, 1, 2, 1);
        Due.law(x, NONE_HOLDS);
        feigned(x, 0, 1, 0, -2);
        feigned(x, 0, 0, 1, 1);
    }

    private static void feignedBad() {
        due.on("FALSE: how many (what 0), the first (1; NOT). BAD.");
        FootstepsAhead x = twins();
        int[] walkers = {-1, 2, 5, Integer.MAX_VALUE, Integer.MIN_VALUE};
        for (int walker : walkers) {
            feigned(x, walker, 0, -1, -1);
        }
        int[] places = {-1, 8, Integer.MAX_VALUE, Integer.MIN_VALUE};
        for (int place : places) {
            feigned(x, 0, place, -1, -1);
        }
        due.is("what -1", x.feigned(0, 0, -1), -1);
        due.is("what 2", x.feigned(0, 0, 2), -1);
    }

    private static void flood(FootstepsAhead x, int place, int ab, int many, int first) {
        due.is("how many by " + ab + " in " + place, x.flood(place, ab, 0), many);
        due.is("the first by " + ab + " in " + place, x.flood(place, ab, 1), first);
    }

    private static void floodFromTill() {
        due.on("in a PLACE nothing is read in minutes a .. b (no TRACKS are SEEN there then):");
        FootstepsAhead x = twins();
        x.mend(0, 1, 5);
        x.mend(1, 1, 5);
        flood(x, 0, 4, 2, 1);
        flood(x, 0, 5, 1, 0);
        flood(x, 0, 5005, 1, 0);
        flood(x, 0, 5999, 1, 0);
        flood(x, 0, 6006, 2, 1);
        flood(x, 0, 6999, 2, 1);
        flood(x, 0, 4004, 2, 1);
        x.mend(1, 1, 6);
        flood(x, 0, 5005, 1, 4);
        flood(x, 0, 6006, 1, 1);
        flood(x, 0, 5006, 1, 0);
    }

    private static void floodInItsPlace() {
        due.on("FLOOD: in a PLACE nothing is read");
        FootstepsAhead x = twins();
        for (int place = 1; place < 8; place++) {
            flood(x, place, 999, 2, 1);
        }
        flood(x, 0, 999, 1, 0);
        FootstepsAhead y = new FootstepsAhead();
        Due.walker(y, 0, 1);
        Due.way(y, 0, 0);
        Due.walker(y, 1, 0);
        Due.way(y, 1, 1);
        flood(y, 7, 999, 2, 1);
        flood(y, 0, 999, 1, 4);
        flood(y, 1, 999, 1, 1);
    }

    private static void floodFirst() {
        due.on("how many HOLD; the first; NOT.");
        FootstepsAhead x = twins();
        Due.law(x, NONE_HOLDS);
        flood(x, 1, 0, 0, -2);
        flood(x, 0, 0, 1, 4);
    }

    private static void floodBounds() {
        due.on("(ab: 1000 a and b, a no more than b; 0 .. 999)");
        FootstepsAhead x = twins();
        flood(x, 1, 0, 2, 1);
        flood(x, 1, 999, 2, 1);
        flood(x, 1, 999999, 2, 1);
        flood(x, 1, 1001, 2, 1);
        flood(x, 1, 1000, -1, -1);
        flood(x, 1, 999998, -1, -1);
        flood(x, 1, 500499, -1, -1);
        flood(x, 1, 500500, 2, 1);
        flood(x, 1, 1000000, -1, -1);
        flood(x, 1, 1000999, -1, -1);
        flood(x, 1, -1, -1, -1);
        flood(x, 1, -1000, -1, -1);
        flood(x, 1, Integer.MAX_VALUE, -1, -1);
        flood(x, 1, Integer.MIN_VALUE, -1, -1);
    }

    private static void floodBad() {
        due.on("how many (what 0), the first (1; NOT). BAD.");
        FootstepsAhead x = twins();
        int[] places = {-1, 8, Integer.MAX_VALUE, Integer.MIN_VALUE};
        for (int place : places) {
            flood(x, place, 0, -1, -1);
        }
        due.is("what -1", x.flood(0, 0, -1), -1);
        due.is("what 2", x.flood(0, 0, 2), -1);
    }

    private static void drawn(FootstepsAhead x, int seed, int n, int days, int none) {
        due.is("days by " + seed + ", " + n + " times", x.drawn(seed, n, 0), days);
        due.is("none by " + seed + ", " + n + " times", x.drawn(seed, n, 1), none);
    }

    private static void oneToTwentyTimes() {
        due.on("n times (1 .. 20) by a SEED:");
        FootstepsAhead x = new FootstepsAhead();
        Due.walker(x, 0);
        drawn(x, 7, 1, 1, 0);
        drawn(x, 7, 20, 20, 0);
        int[] none = {0, -1, 21, Integer.MAX_VALUE, Integer.MIN_VALUE};
        for (int n : none) {
            drawn(x, 7, n, -1, -1);
        }
    }

    /** Both are back in minute 1, so that any LEAD but 0 is as good; by one LEAD of a WALKER no day holds. */
    private static FootstepsAhead noneBy(int walker, int lead) {
        FootstepsAhead x = new FootstepsAhead();
        for (int w = 0; w < 2; w++) {
            Due.walker(x, 0, 0);
            Due.way(x, w, 0, 2);
        }
        Due.law(x, (walker == 0 ? "k=1" : "k=0") + "?n;l=" + lead + "?!n;n");
        return x;
    }

    private static void aheadOfEachWalker() {
        due.on("z = z * 1103515245 + 12345 (an int; SEED at first) ahead of each WALKER: its LEAD is (z >>> 8) % 61:");
        int[][] rows = { // SEED and the first four
            {0, 48, 45, 40, 31}, {1, 28, 47, 11, 17}, {7, 13, 21, 17, 55}, {-1, 26, 23, 50, 45},
            {Integer.MAX_VALUE, 16, 33, 60, 35}, {Integer.MIN_VALUE, 58, 35, 30, 21},
        };
        for (int[] row : rows) {
            for (int walker = 0; walker < 2; walker++) {
                drawn(noneBy(walker, row[1 + walker]), row[0], 1, 0, 1);
                drawn(noneBy(walker, row[1 + walker] - 1), row[0], 1, 2, 0);
                drawn(noneBy(walker, row[3 + walker]), row[0], 1, 2, 0);
                drawn(noneBy(walker, row[3 + walker]), row[0], 2, 2, 1);
            }
        }
    }

    private static void seedAtFirst() {
        due.on("(an int; SEED at first)");
        FootstepsAhead x = noneBy(0, 48);
        drawn(x, 0, 1, 0, 1);
        drawn(x, 0, 1, 0, 1);
        drawn(x, 1, 1, 2, 0);
        drawn(x, 0, 1, 0, 1);
    }

    private static void drawnTogether() {
        due.on("how many DAYS HOLD, together; how many times none does.");
        FootstepsAhead x = noneBy(1, 61);
        drawn(x, 5, 20, 40, 0);
        drawn(x, 0, 20, 37, 0); // 0 is drawn three times, and one day holds by it
        Due.law(x, NONE_HOLDS);
        drawn(x, 5, 20, 0, 20);
        drawn(x, 0, 20, 3, 17);
    }

    private static void drawnOfNobody() {
        due.on("DRAWN: DAYS (what 0), how many times none (1). BAD.");
        FootstepsAhead x = new FootstepsAhead();
        drawn(x, 5, 1, 1, 0);
        drawn(x, 5, 20, 20, 0);
    }

    private static void drawnBad() {
        due.on("DRAWN: DAYS (what 0), how many times none (1). BAD.");
        FootstepsAhead x = twins();
        due.is("what -1", x.drawn(7, 5, -1), -1);
        due.is("what 2", x.drawn(7, 5, 2), -1);
        due.is("n 0", x.drawn(7, 0, 0), -1);
        due.is("n 21", x.drawn(7, 21, 1), -1);
    }

    /** WALKER w takes WAY 3, if it sees any other's tracks at its own place w, and WAY 0, if none. */
    private static FootstepsAhead five() {
        FootstepsAhead x = new FootstepsAhead();
        for (int walker = 0; walker < 5; walker++) {
            Due.walker(x, walker);
            for (int way = 1; way < 4; way++) {
                Due.way(x, walker, 7, 4 + way);
            }
        }
        Due.law(x, "!!n*3");
        return x;
    }

    private static void fiveWalkers() {
        due.on("WALKERS 0 .. 4, as they come:");
        FootstepsAhead x = five();
        due.is("one holds", x.holding(-1), 1);
        due.is("by which nobody sees any", x.holding(0), 0);
        for (int walker = 0; walker < 5; walker++) {
            feigned(x, (walker + 1) % 5, walker, 1, 3 << 2 * walker);
            feigned(x, walker, walker, 1, 0);
            shoes(x, walker, 0, 1);
            due.is("its LEAD stays", x.of(walker, 0), 10);
        }
        drawn(x, 7, 20, 20, 0);
        Due.law(x, "3-!!n*3");
        due.is("one holds", x.holding(-1), 1);
        due.is("by which all take 3", x.holding(0), 1023);
        for (int walker = 0; walker < 5; walker++) {
            flood(x, walker, 999, 1, 1023);
            feigned(x, (walker + 1) % 5, walker, 1, 1023 - (3 << 2 * walker));
            due.is("its LEAD stays", x.of(walker, 0), 10);
        }
        FootstepsAhead y = new FootstepsAhead();
        for (int walker = 0; walker < 5; walker++) {
            Due.walker(y, walker, (walker + 1) % 5);
            Due.way(y, walker, walker);
        }
        due.is("odd rounds cannot hold", y.holding(-1), 0);
        flood(y, 0, 0, 1, 4 + 64);
        flood(y, 4, 0, 1, 1 + 16);
    }

    private static FootstepsAhead shod() {
        FootstepsAhead x = twins();
        x.mend(0, 0, 11);
        x.mend(1, 0, 13);
        return x;
    }

    private static void untouched(FootstepsAhead x, String call) {
        due.is(call + ": two hold", x.holding(-1), 2);
        due.is(call + ": the first", x.holding(0), 1);
        due.is(call + ": the second", x.holding(1), 4);
        due.is(call + ": 0's LEAD", x.of(0, 0), 11);
        due.is(call + ": 1's LEAD", x.of(1, 0), 13);
        due.is(call + ": changes", x.count(3), 2);
    }

    private static void triedOnlyChangesNothing() {
        due.on("CHANGES (MINUTES; LEAD, START, FALL of WALKERS; telling the same number is none)");
        FootstepsAhead x = shod();
        untouched(x, "before");
        for (int what = 0; what < 2; what++) {
            for (int walker = 0; walker < 2; walker++) {
                x.shoes(walker, what);
                untouched(x, "shoes " + walker);
                x.feigned(walker, 0, what);
                untouched(x, "feigned " + walker);
            }
            x.flood(0, 999, what);
            untouched(x, "flood");
            x.drawn(3, 20, what);
            untouched(x, "drawn");
        }
        FootstepsAhead y = noneBy(0, 48);
        due.is("two hold", y.holding(-1), 2);
        due.is("none by what is drawn", y.drawn(0, 1, 0), 0);
        due.is("two hold still", y.holding(-1), 2);
        FootstepsAhead z = twins();
        due.is("one by no LEAD", z.shoes(0, 1), 1);
        due.is("two hold still", z.holding(-1), 2);
        FootstepsAhead w = oneIfSeen(17);
        due.is("two hold", w.holding(-1), 2);
        due.is("one by 17", w.shoes(0, 0), 17);
        due.is("two hold still", w.holding(-1), 2);
    }

    private static void refusedChangesNothing() {
        due.on("What is answered so changes nothing.");
        FootstepsAhead x = shod();
        FootstepsAhead y = shod();
        due.is("shoes BAD", x.shoes(2, 0), -1);
        due.is("feigned BAD", x.feigned(2, 0, 0), -1);
        due.is("flood BAD", x.flood(8, 0, 0), -1);
        due.is("drawn BAD", x.drawn(0, 0, 0), -1);
        x.shoes(0, 0);
        x.drawn(3, 7, 0);
        Alike.ask(due, "refused, or only tried", x, y);
    }
}
