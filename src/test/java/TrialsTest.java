/** Promises 21 to 24: shoes, feigned, flood, drawn. */
public final class TrialsTest {
    private static final Due due = new Due("TrialsTest");
    private static final String NONE_HOLDS = "k=0?n;!n";

    public static void main(String[] args) {
        shoes();
        shoesByTheLaw();
        feigned();
        flood();
        drawn();
        due.end();
    }

    /** What is tried on changes nothing. */
    private static void untouched(FootstepsAhead x, String call, int many, int first) {
        due.is(call + ": holding -1", x.holding(-1), many);
        due.is(call + ": holding 0", x.holding(0), first);
        due.is(call + ": lead 0", x.of(0, 0), 10);
        due.is(call + ": lead 1", x.of(1, 0), 10);
    }

    private static void shoes() {
        FootstepsAhead x = DaysTest.twins();
        due.is("shoes", x.shoes(0, 0), 0);
        due.is("shoes how many", x.shoes(0, 1), 1);
        untouched(x, "shoes", 2, 1);
        due.is("shoes of 1", x.shoes(1, 0), 0);
        due.is("shoes, no change", x.count(3), 0);
        Due.law(x, NONE_HOLDS);
        due.is("shoes where none holds", x.shoes(0, 0), 0);
        due.is("shoes where none holds, how many", x.shoes(0, 1), 1);
        untouched(x, "shoes where none holds", 0, -2);
        due.is("nobody", x.shoes(2, 0), -1);
        due.is("nobody below", x.shoes(-1, 0), -1);
        due.is("what 2", x.shoes(0, 2), -1);
        due.is("what -1", x.shoes(0, -1), -1);
        FootstepsAhead y = new FootstepsAhead(); // 1 and 2 never agree, but where both see 0
        Due.walker(y, 0, 1, 0);
        for (int w = 1; w < 3; w++) {
            Due.walker(y, 0, 1, 0);
            Due.way(y, w, 0, 2);
        }
        Due.law(y, "k=0?0;s%2?1;k=1?n;!n");
        due.is("shoes that must be long enough", y.shoes(0, 0), 10);
        due.is("shoes that must be long enough, how many", y.shoes(0, 1), 1);
        y.mend(1, 3, 30);
        y.mend(1, 0, 60);
        y.mend(2, 0, 60);
        due.is("the longest", y.shoes(0, 0), 60);
        FootstepsAhead z = new FootstepsAhead();
        Due.walker(z, 0);
        for (int w = 1; w < 3; w++) {
            Due.walker(z, 0, 1, 0);
            Due.way(z, w, 0, 2);
        }
        Due.law(z, "k=0?0;s%2?1;k=1?n;!n");
        due.is("no shoes", z.shoes(0, 0), -2);
        due.is("no shoes, how many", z.shoes(0, 1), -2);
    }

    private static void shoesByTheLaw() {
        FootstepsAhead x = DaysTest.twins();
        Due.law(x, "l=37?0;l=38?0;k=0?n;n");
        due.is("as the law asks", x.shoes(0, 1), 1);
        x.mend(1, 0, 60);
        Due.law(x, "k=1?1;l=37?1;n=0?0;n");
        due.is("all alike", x.shoes(0, 0), 0);
        FootstepsAhead y = new FootstepsAhead(); // by 41 alone, 0 comes where 1 and 2 see it
        Due.walker(y, 3);
        Due.way(y, 0, 0, 1, 0);
        for (int w = 1; w < 3; w++) {
            Due.walker(y, 0, 1, 0);
            Due.way(y, w, 0, 2);
        }
        Due.law(y, "k=0?l=41;s%2?1;n");
        due.is("two hold", y.holding(-1), 2);
        due.is("by one law alone", y.shoes(0, 0), 41);
        due.is("by one law alone, how many", y.shoes(0, 1), 1);
        FootstepsAhead z = new FootstepsAhead();
        for (int w = 0; w < 3; w++) {
            Due.walker(z, 0, 1, 0);
            Due.way(z, w, 0, 2);
        }
        Due.law(z, "k=2&l<44?s%4/3;k=2&l<55?0;k=0?(s/2)%2;s%2");
        int least = -1;
        int many = -1;
        for (int lead = 60; lead >= 0; lead--) {
            z.mend(2, 0, lead);
            int days = z.holding(-1);
            if (days > 0 && (many < 0 || days <= many)) {
                many = days;
                least = lead;
            }
        }
        due.is("as by mending", z.shoes(2, 0), least);
        due.is("as by mending, how many", z.shoes(2, 1), many);
    }

    private static void feigned() {
        FootstepsAhead x = DaysTest.twins();
        int[][] rows = {{0, 0, 1, 4}, {1, 0, 1, 1}, {0, 1, 2, 1}, {1, 7, 2, 1}};
        for (int[] row : rows) {
            due.is("feigned " + row[0] + " " + row[1], x.feigned(row[0], row[1], 0), row[2]);
            due.is("feigned, first " + row[0] + " " + row[1], x.feigned(row[0], row[1], 1), row[3]);
            untouched(x, "feigned", 2, 1);
        }
        due.is("nobody", x.feigned(2, 0, 0), -1);
        due.is("nobody below", x.feigned(-1, 0, 0), -1);
        due.is("place 8", x.feigned(0, 8, 0), -1);
        due.is("place -1", x.feigned(0, -1, 0), -1);
        due.is("what 2", x.feigned(0, 0, 2), -1);
        due.is("what -1", x.feigned(0, 0, -1), -1);
        Due.law(x, NONE_HOLDS);
        due.is("where none holds", x.feigned(0, 0, 0), 1);
        due.is("where none holds, first", x.feigned(0, 0, 1), 1);
        due.is("elsewhere", x.feigned(0, 1, 0), 0);
        due.is("elsewhere, first", x.feigned(0, 1, 1), -2);
        Due.law(x, "n");
        x.mend(0, 1, 200);
        due.is("always there", x.feigned(1, 0, 1), 1);
    }

    private static void flood() {
        FootstepsAhead x = DaysTest.twins();
        int[][] rows = {{0, 0, 1, 0}, {0, 999, 1, 0}, {0, 1001, 2, 1}, {0, 1999, 2, 1}, {1, 0, 2, 1}, {0, 999999, 2, 1}};
        for (int[] row : rows) {
            due.is("flood " + row[0] + " " + row[1], x.flood(row[0], row[1], 0), row[2]);
            due.is("flood, first " + row[0] + " " + row[1], x.flood(row[0], row[1], 1), row[3]);
            untouched(x, "flood", 2, 1);
        }
        Due.law(x, NONE_HOLDS);
        due.is("where none holds", x.flood(0, 0, 0), 1);
        due.is("where none holds, first", x.flood(0, 0, 1), 4);
        due.is("elsewhere", x.flood(1, 0, 0), 0);
        due.is("elsewhere, first", x.flood(1, 0, 1), -2);
        Due.law(x, "n");
        x.mend(0, 1, 5);
        x.mend(1, 1, 5);
        due.is("from 5 on", x.flood(0, 5005, 0), 1);
        due.is("till 5", x.flood(0, 5, 0), 1);
        due.is("till 4", x.flood(0, 4, 0), 2);
        due.is("from 6 on", x.flood(0, 6999, 0), 2);
        due.is("a above b", x.flood(0, 6005, 0), -1);
        due.is("a above b, far", x.flood(0, 999998, 0), -1);
        due.is("a is 1000", x.flood(0, 1000999, 0), -1);
        due.is("below", x.flood(0, -1, 0), -1);
        due.is("far below", x.flood(0, Integer.MIN_VALUE, 0), -1);
        due.is("far", x.flood(0, Integer.MAX_VALUE, 0), -1);
        due.is("place 8", x.flood(8, 0, 0), -1);
        due.is("place -1", x.flood(-1, 0, 0), -1);
        due.is("what 2", x.flood(0, 0, 2), -1);
        due.is("what -1", x.flood(0, 0, -1), -1);
        x.mend(1, 1, 6);
        due.is("only one of them reads nothing", x.flood(0, 6006, 1), 1);
    }

    /** As by mending each LEAD by the same seed. */
    private static void drawn() {
        int[] seeds = {0, 1, 7, -1, 12345, Integer.MAX_VALUE, Integer.MIN_VALUE, 987654321};
        for (int seed : seeds) {
            for (int n = 1; n <= 20; n += 19) {
                FootstepsAhead x = DaysTest.twins();
                Due.law(x, "k=0?n;l>30?!n;n");
                FootstepsAhead y = DaysTest.twins();
                Due.law(y, "k=0?n;l>30?!n;n");
                int z = seed;
                int days = 0;
                int none = 0;
                for (int i = 0; i < n; i++) {
                    for (int w = 0; w < 2; w++) {
                        z = z * 1103515245 + 12345;
                        y.mend(w, 0, (z >>> 8) % 61);
                    }
                    days += y.holding(-1);
                    none += y.holding(-1) == 0 ? 1 : 0;
                }
                due.is("drawn " + seed + " " + n, x.drawn(seed, n, 0), days);
                due.is("drawn, none " + seed + " " + n, x.drawn(seed, n, 1), none);
                due.is("leads stay", x.of(0, 0) * 100 + x.of(1, 0), 1010);
                due.is("no change", x.count(3), 0);
            }
        }
        FootstepsAhead x = DaysTest.twins();
        due.is("drawn 1 of twins", x.drawn(7, 1, 0) >= 1 ? 1 : 0, 1);
        untouched(x, "drawn", 2, 1);
        due.is("n 0", x.drawn(7, 0, 0), -1);
        due.is("n -1", x.drawn(7, -1, 0), -1);
        due.is("n 21", x.drawn(7, 21, 0), -1);
        due.is("what 2", x.drawn(7, 1, 2), -1);
        due.is("what -1", x.drawn(7, 1, -1), -1);
    }
}
