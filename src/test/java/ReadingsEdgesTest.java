/** Promises 17 to 20, and what the Terms say of them: each edge by the words that name it. */
public final class ReadingsEdgesTest {
    private static final Due due = new Due("ReadingsEdgesTest");
    private static final String NONE_HOLDS = "k=0?n;!n";

    public static void main(String[] args) {
        justAsSeen();
        nothingRead();
        mostRead();
        firstNot();
        walkersAlike();
        walkersOfNoneFits();
        readBad();
        nothingThere();
        noRowOfShorts();
        threes();
        threesThatLack();
        placesOfThrees();
        minutesOfThrees();
        bitsOfThrees();
        orderOfReadRefusals();
        fewerThanTwoFit();
        minutesOfLooks();
        greatestPartIsLeast();
        likeLooksLeastMinute();
        likeLooksLeastPlace();
        tracksOfTheStartPartToo();
        nothingPartsThem();
        lookRefusals();
        cheapestAtNoCost();
        cheapestIsLeast();
        cheapestOfLikeOnes();
        cheapestOfAllDays();
        cheapestNever();
        cheapestNot();
        cheapestBad();
        mostDays();
        guardMinutes();
        likeGuardsLeastMinute();
        likeGuardsLeastPlace();
        guardOfNobody();
        guardNoneHolds();
        guardBad();
        refusedChangesNothing();
        due.end();
    }

    private static FootstepsAhead twins() {
        return DaysTest.twins(); // days 1 and 4 hold; who takes WAY 0 comes back to 0
    }

    private static void reads(FootstepsAhead x, int many, int first, int walkers) {
        due.is("how many", x.read(0, 0), many);
        due.is("the first", x.read(0, 1), first);
        due.is("walkers", x.read(0, 2), walkers);
    }

    private static void justAsSeen() {
        due.on("by threes a PLACE, a minute, WALKERS' TRACKS (bits) just as seen:");
        FootstepsAhead x = twins();
        int[][] rows = {{0, 0, -2, 0}, {1, 1, 4, 3}, {2, 1, 1, 3}, {3, 0, -2, 0}, {5, 0, -2, 0}};
        for (int[] row : rows) {
            Due.row(x, 0, 1, 0, 0, row[0]);
            reads(x, row[1], row[2], row[3]);
        }
        Due.row(x, 0, 1, 1, 4, 1, 2, 4, 2);
        reads(x, 1, 4, 3);
        Due.row(x, 0, 1, 1, 4, 1, 2, 4, 0);
        reads(x, 0, -2, 0);
        Due.row(x, 0, 1, 1, 5, 0, 1, 4, 1);
        reads(x, 1, 4, 3);
    }

    private static void nothingRead() {
        due.on("how many DAYS that HOLD fit;");
        FootstepsAhead x = twins();
        x.row(0, 1, 0);
        reads(x, 2, 1, 0);
        Due.law(x, "1");
        reads(x, 1, 5, 3);
        FootstepsAhead y = new FootstepsAhead();
        y.row(0, 1, 0);
        reads(y, 1, 0, 0);
    }

    private static void mostRead() {
        due.on("of 0 .. 60 elements, 0 at first (false);");
        FootstepsAhead x = twins();
        x.row(0, 1, 60);
        for (int i = 0; i < 60; i += 3) {
            x.put(0, i, 7);
        }
        reads(x, 2, 1, 0);
        x.put(0, 57, 0);
        x.put(0, 59, 1);
        reads(x, 1, 4, 3);
        x.put(0, 59, 3);
        reads(x, 0, -2, 0);
    }

    private static void firstNot() {
        due.on("the first (1; NOT), WALKERS (2).");
        FootstepsAhead x = twins();
        x.row(0, 1, 0);
        due.is("the first of two", x.read(0, 1), 1);
        Due.law(x, NONE_HOLDS);
        due.is("of none", x.read(0, 0), 0);
        due.is("the first of none", x.read(0, 1), -2);
    }

    private static void walkersAlike() {
        due.on("WALKERS that take the same WAY on all of them (bits;");
        FootstepsAhead x = twins();
        for (int walker = 2; walker < 5; walker++) {
            Due.walker(x, 6);
        }
        Due.way(x, 4, 7);
        x.row(0, 1, 0);
        reads(x, 2, 1, 4 + 8 + 16);
        Due.law(x, "k=4?1;n");
        reads(x, 2, 1 + 256, 4 + 8 + 16);
        Due.row(x, 0, 1, 0, 0, 1);
        reads(x, 1, 4 + 256, 31);
    }

    private static void walkersOfNoneFits() {
        due.on("(bits; 0: none fits).");
        FootstepsAhead x = twins();
        Due.walker(x, 6);
        Due.row(x, 0, 1, 7, 0, 1);
        reads(x, 0, -2, 0);
        x.row(0, 1, 0);
        Due.law(x, NONE_HOLDS);
        reads(x, 0, -2, 0);
    }

    private static void readBad() {
        due.on("READ: how many (what 0), the first (1; NOT), WALKERS (2). BAD, -11, -12 (no ROW of shorts);");
        FootstepsAhead x = twins();
        x.row(0, 1, 0);
        int[] whats = {-1, 3, Integer.MAX_VALUE, Integer.MIN_VALUE};
        for (int what : whats) {
            due.is("what " + what, x.read(0, what), -1);
        }
        int[] shelves = {-1, 6, Integer.MAX_VALUE, Integer.MIN_VALUE};
        for (int shelf : shelves) {
            due.is("read " + shelf, x.read(shelf, 0), -1);
            due.is("look " + shelf, x.look(shelf), -1);
        }
    }

    private static void nothingThere() {
        due.on("-11 nothing is there where something is wanted;");
        FootstepsAhead x = twins();
        for (int shelf = 0; shelf < 5; shelf++) {
            due.is("read " + shelf, x.read(shelf, 0), -11);
            due.is("look " + shelf, x.look(shelf), -11);
        }
    }

    private static void noRowOfShorts() {
        due.on("-12 (no ROW of shorts);");
        FootstepsAhead x = twins();
        x.body(0);
        x.keep(0, 0);
        due.is("read a body", x.read(0, 0), -12);
        due.is("look by a body", x.look(0), -12);
        for (int sort = 0; sort < 5; sort++) {
            x.row(0, sort, 0);
            due.is("read sort " + sort, x.read(0, 0), sort == 1 ? 2 : -12);
            due.is("look by sort " + sort, x.look(0), sort == 1 ? 0 : -12);
        }
    }

    private static void threes() {
        due.on("STATE: a three is not as it may be, or lacks.");
        FootstepsAhead x = twins();
        Due.row(x, 0, 1, 0, 0, 1, 8, 0, 0);
        for (int what = 0; what < 3; what++) {
            due.is("the second is not, what " + what, x.read(0, what), -5);
        }
        due.is("look", x.look(0), -5);
        Due.row(x, 0, 1, 7, 999, 32);
        due.is("one that no day fits is not", x.read(0, 0), -5);
        Due.row(x, 0, 1, 0, 0, 3, 0, 0, 32);
        due.is("one behind which none fits is not", x.read(0, 0), -5);
    }

    private static void threesThatLack() {
        due.on("a three is not as it may be, or lacks.");
        FootstepsAhead x = twins();
        int[] sizes = {1, 2, 4, 5, 58, 59};
        for (int size : sizes) {
            x.row(0, 1, size);
            due.is("read " + size, x.read(0, 0), -5);
            due.is("look " + size, x.look(0), -5);
        }
        x.row(0, 1, 60);
        due.is("60 are threes", x.read(0, 0), 0);
        x.row(0, 1, 57);
        due.is("57 are threes", x.read(0, 0), 0);
    }

    private static void placesOfThrees() {
        due.on("by threes a PLACE, a minute,");
        FootstepsAhead x = twins();
        int[][] rows = {{-1, -5}, {0, 0}, {7, 2}, {8, -5}, {32767, -5}, {-32768, -5}};
        for (int[] row : rows) {
            Due.row(x, 0, 1, row[0], 0, 0);
            due.is("place " + row[0], x.read(0, 0), row[1]);
        }
    }

    private static void minutesOfThrees() {
        due.on("BAD (minutes 0 .. 999)");
        FootstepsAhead x = twins();
        int[][] rows = {{-1, -5}, {0, 2}, {999, 2}, {1000, -5}, {32767, -5}, {-32768, -5}};
        for (int[] row : rows) {
            Due.row(x, 0, 1, 7, row[0], 0);
            due.is("minute " + row[0], x.read(0, 0), row[1]);
        }
    }

    private static void bitsOfThrees() {
        due.on("WALKERS' TRACKS (bits) just as seen:");
        FootstepsAhead x = twins();
        int[][] rows = {{-1, -5}, {0, 2}, {1, 0}, {31, 0}, {32, -5}, {32767, -5}, {-32768, -5}};
        for (int[] row : rows) {
            Due.row(x, 0, 1, 7, 0, row[0]);
            due.is("bits " + row[0], x.read(0, 0), row[1]);
        }
    }

    private static void orderOfReadRefusals() {
        due.on("Answers, of several the one named first: BAD (-1)");
        FootstepsAhead x = twins();
        due.is("no what, nothing there", x.read(0, 3), -1);
        x.row(0, 0, 1);
        due.is("no what, bytes", x.read(0, -1), -1);
        due.is("one byte", x.read(0, 0), -12);
        due.is("look by one byte", x.look(0), -12);
        x.row(0, 1, 1);
        due.is("no what, one short", x.read(0, 3), -1);
    }

    private static void fewerThanTwoFit() {
        due.on("NOT: fewer than two fit.");
        FootstepsAhead x = twins();
        x.row(0, 1, 0);
        due.is("two", x.look(0), 0);
        Due.row(x, 0, 1, 0, 0, 1);
        due.is("one", x.look(0), -2);
        Due.row(x, 0, 1, 0, 0, 3);
        due.is("none", x.look(0), -2);
        x.row(0, 1, 0);
        Due.law(x, NONE_HOLDS);
        due.is("none holds", x.look(0), -2);
    }

    private static FootstepsAhead lateTwins(int start) {
        FootstepsAhead x = twins();
        x.mend(0, 1, start);
        x.mend(1, 1, start);
        x.row(0, 1, 0);
        return x;
    }

    private static void minutesOfLooks() {
        due.on("of all PLACES and minutes 0 .. 60 that by which the DAYS that fit are parted best");
        due.is("the first minute", lateTwins(0).look(0), 0);
        due.is("tracks from minute 60 on", lateTwins(65).look(0), 601);
        due.is("tracks from minute 61 on", lateTwins(66).look(0), 0);
        due.is("tracks from minute 0 on", lateTwins(5).look(0), 1);
    }

    /** Two pairs hold on four days: of each pair one comes back home. */
    private static FootstepsAhead pairs() {
        FootstepsAhead x = new FootstepsAhead();
        for (int walker = 0; walker < 4; walker++) {
            int home = walker / 2 * 4;
            Due.walker(x, home, 3, home);
            Due.way(x, walker, home, 7);
        }
        x.row(0, 1, 0);
        return x;
    }

    private static void greatestPartIsLeast() {
        due.on("(the greatest part that looks alike is least;");
        FootstepsAhead x = pairs();
        due.is("four fit", x.read(0, 0), 4);
        due.is("at home 0 by halves, at 3 all four apart", x.look(0), 3);
        x.mend(2, 1, 9);
        x.mend(3, 1, 9);
        due.is("four fit still", x.read(0, 0), 4);
        due.is("at 3 all four apart in minute 4 alone", x.look(0), 43);
        x.mend(2, 1, 10);
        x.mend(3, 1, 10);
        due.is("by halves everywhere", x.look(0), 0);
    }

    private static void likeLooksLeastMinute() {
        due.on("of like ones the least minute, then the PLACE): minute times 10, and the PLACE;");
        FootstepsAhead x = lateTwins(30);
        x.mend(2, 3, 3);
        due.is("at 2 from 23 on, at 1 from 25 on", x.look(0), 232);
        x.mend(2, 3, 7);
        due.is("at 2 from 27 on", x.look(0), 251);
    }

    private static void likeLooksLeastPlace() {
        due.on("of like ones the least minute, then the PLACE): minute times 10, and the PLACE;");
        FootstepsAhead x = lateTwins(30);
        due.is("at 1 and at 2 from 25 on", x.look(0), 251);
        FootstepsAhead y = new FootstepsAhead();
        for (int walker = 0; walker < 2; walker++) {
            Due.walker(y, 0, 1 + 2 * walker, 0);
            Due.way(y, walker, 0, 2 + 2 * walker);
            y.mend(walker, 1, 30);
        }
        y.row(0, 1, 0);
        due.is("two fit", y.read(0, 0), 2);
        due.is("at 1, by WALKER 0's first way alone", y.look(0), 251);
        for (int walker = 2; walker < 5; walker++) {
            Due.walker(y, 7, 6);
        }
        due.is("two fit of five WALKERS", y.read(0, 0), 2);
        due.is("at 1 still", y.look(0), 251);
    }

    private static void tracksOfTheStartPartToo() {
        due.on("that by which the DAYS that fit are parted best");
        FootstepsAhead x = new FootstepsAhead();
        Due.walker(x, 0, 1, 0);
        Due.way(x, 0, 5);
        Due.walker(x, 0, 1, 0);
        Due.way(x, 1, 0, 2);
        x.mend(0, 1, 30);
        x.mend(1, 1, 30);
        x.row(0, 1, 0);
        due.is("two fit", x.read(0, 0), 2);
        due.is("at 0, where 0 starts by one of them", x.look(0), 200);
    }

    private static void nothingPartsThem() {
        due.on("of like ones the least minute, then the PLACE)");
        FootstepsAhead x = lateTwins(200);
        due.is("two fit", x.read(0, 0), 2);
        due.is("both look alike everywhere till minute 60", x.look(0), 0);
    }

    private static void lookRefusals() {
        due.on("NEXT LOOK. BAD, -11, -12; STATE; NOT.");
        FootstepsAhead x = twins();
        due.is("shelf -1", x.look(-1), -1);
        due.is("shelf 6", x.look(6), -1);
        due.is("nothing there", x.look(0), -11);
        x.row(0, 2, 3);
        due.is("ints", x.look(0), -12);
        Due.row(x, 0, 1, 0, 0, 1, 0);
        due.is("four shorts", x.look(0), -5);
        Due.row(x, 0, 1, 0, 0, 1);
        due.is("one fits", x.look(0), -2);
    }

    private static void cheapest(FootstepsAhead x, int walker, int place, int cost, int day) {
        due.is("cost", x.cheapest(walker, place, 0), cost);
        due.is("day", x.cheapest(walker, place, 1), day);
    }

    private static void cheapestAtNoCost() {
        due.on("CHEAPEST: the least cost (BESIDE; 0 too) of a DAY");
        FootstepsAhead x = twins();
        cheapest(x, 0, 2, 0, 4);
        cheapest(x, 0, 1, 0, 1);
        cheapest(x, 1, 7, 0, 1);
    }

    private static void cheapestIsLeast() {
        due.on("CHEAPEST: the least cost (BESIDE; 0 too) of a DAY");
        FootstepsAhead x = twins();
        Due.law(x, "1");
        x.mend(0, 2, 98);
        x.mend(1, 2, 99);
        cheapest(x, 0, 2, 98, 4);
        cheapest(x, 1, 2, 99, 1);
        Due.law(x, NONE_HOLDS);
        cheapest(x, 0, 2, 98, 0);
        cheapest(x, 0, 1, 98, 5);
        x.mend(1, 2, 97);
        cheapest(x, 0, 2, 97, 4);
        cheapest(x, 0, 1, 97, 1);
    }

    private static void cheapestOfLikeOnes() {
        due.on("the DAY (of like ones the least); NOT.");
        FootstepsAhead x = twins();
        cheapest(x, 0, 7, 0, 1);
        Due.law(x, NONE_HOLDS);
        cheapest(x, 0, 7, 10, 0);
        cheapest(x, 0, 1, 10, 1);
        cheapest(x, 1, 1, 10, 4);
    }

    private static void cheapestOfAllDays() {
        due.on("the least cost (BESIDE; 0 too) of a DAY on which a told WALKER is never in a told PLACE;");
        FootstepsAhead x = new FootstepsAhead();
        for (int walker = 0; walker < 5; walker++) {
            Due.walker(x, 0, 1);
            Due.way(x, walker, 0, 1, 2);
            Due.way(x, walker, 0, 1, 3);
            Due.way(x, walker, 0, 4);
            x.mend(walker, 2, 10 + walker);
        }
        Due.law(x, "2");
        for (int walker = 0; walker < 5; walker++) {
            cheapest(x, walker, 1, 10 + walker, 682 + (1 << 2 * walker));
            cheapest(x, walker, 3, 10 + walker, 682 - (2 << 2 * walker));
            cheapest(x, walker, 4, 0, 682);
            cheapest(x, walker, 0, -2, -2);
        }
    }

    private static void cheapestNever() {
        due.on("on which a told WALKER is never in a told PLACE;");
        FootstepsAhead x = twins();
        Due.way(x, 0, 5, 6, 7);
        Due.law(x, "0");
        cheapest(x, 0, 0, 10, 2);
        cheapest(x, 0, 5, 0, 0);
        cheapest(x, 0, 1, 10, 1);
        Due.law(x, "2");
        cheapest(x, 0, 5, 10, 0);
        cheapest(x, 0, 6, 10, 0);
        cheapest(x, 0, 7, 10, 0);
    }

    private static void cheapestNot() {
        due.on("CHEAPEST: the cost (what 0), the DAY (1). BAD; NOT.");
        FootstepsAhead x = twins();
        cheapest(x, 0, 0, -2, -2);
        Due.way(x, 0, 3);
        cheapest(x, 0, 0, 10, 2);
        cheapest(x, 1, 0, -2, -2);
    }

    private static void cheapestBad() {
        due.on("CHEAPEST: the cost (what 0), the DAY (1). BAD; NOT.");
        FootstepsAhead x = twins();
        int[] walkers = {-1, 2, 5, Integer.MAX_VALUE, Integer.MIN_VALUE};
        for (int walker : walkers) {
            due.is("walker " + walker, x.cheapest(walker, 0, 0), -1);
        }
        int[] places = {-1, 8, Integer.MAX_VALUE, Integer.MIN_VALUE};
        for (int place : places) {
            due.is("place " + place, x.cheapest(0, place, 0), -1);
        }
        due.is("what -1", x.cheapest(0, 1, -1), -1);
        due.is("what 2", x.cheapest(0, 1, 2), -1);
        due.is("what 2 of a place that is never missed", x.cheapest(0, 0, 2), -1);
    }

    private static void guard(FootstepsAhead x, int walkers, int many, int where) {
        due.is("how many by " + walkers, x.guard(walkers, 0), many);
        due.is("where by " + walkers, x.guard(walkers, 1), where);
    }

    private static void mostDays() {
        due.on("where on most DAYS that HOLD somebody of told WALKERS (bits) is: how many DAYS;");
        FootstepsAhead x = twins();
        guard(x, 1, 2, 0);
        x.mend(0, 1, 100);
        x.mend(1, 1, 100);
        Due.walker(x, 5);
        x.mend(2, 1, 150);
        guard(x, 4, 2, 1505);
        guard(x, 3, 2, 1000);
        guard(x, 7, 2, 1000);
        Due.law(x, "1");
        guard(x, 1, 1, 1000);
    }

    /** Days 1 and 4 hold; only in its last minute, 400, is 0 in one place, 7, on both. */
    private static FootstepsAhead lateAtSeven() {
        FootstepsAhead x = new FootstepsAhead();
        Due.walker(x, 0, 1, 0, 1, 0, 1, 0, 7);
        Due.way(x, 0, 2, 4, 2, 3, 2, 3, 2, 7);
        Due.walker(x, 4, 0);
        Due.way(x, 1, 4, 5);
        x.mend(0, 1, 200);
        x.mend(1, 1, 200);
        x.mend(0, 0, 60);
        x.mend(1, 3, 30);
        x.mend(23, 3, 30);
        x.mend(24, 3, 30);
        x.mend(7, 3, 20);
        x.mend(27, 3, 20);
        Due.law(x, NONE_HOLDS);
        return x;
    }

    private static void guardMinutes() {
        due.on("minute times 10, and the PLACE (minutes 0 .. 400;");
        FootstepsAhead x = lateAtSeven();
        due.is("1 holds", x.holding(0), 1);
        due.is("4 holds", x.holding(1), 4);
        guard(x, 1, 2, 4007);
        x.mend(7, 3, 21);
        x.mend(27, 3, 21);
        guard(x, 1, 1, 2000);
        guard(twins(), 1, 2, 0);
    }

    private static void likeGuardsLeastMinute() {
        due.on("(minutes 0 .. 400; of like ones the least minute, then the PLACE)");
        FootstepsAhead x = new FootstepsAhead();
        Due.walker(x, 7, 6, 0);
        guard(x, 1, 1, 7);
        x.mend(0, 1, 3);
        guard(x, 1, 1, 37);
    }

    private static void likeGuardsLeastPlace() {
        due.on("of like ones the least minute, then the PLACE); NOT: none HOLDS.");
        FootstepsAhead x = new FootstepsAhead();
        Due.walker(x, 7);
        Due.walker(x, 4);
        Due.walker(x, 6);
        guard(x, 7, 1, 4);
        guard(x, 5, 1, 6);
        guard(x, 1, 1, 7);
    }

    private static void guardOfNobody() {
        due.on("somebody of told WALKERS (bits) is: how many DAYS;");
        FootstepsAhead x = twins();
        guard(x, 0, 0, 0);
        guard(new FootstepsAhead(), 0, 0, 0);
    }

    private static void guardNoneHolds() {
        due.on("NOT: none HOLDS.");
        FootstepsAhead x = twins();
        Due.law(x, NONE_HOLDS);
        guard(x, 1, -2, -2);
        guard(x, 0, -2, -2);
        guard(x, 4, -1, -1);
    }

    private static void guardBad() {
        due.on("GUARD: how many DAYS (what 0), where (1). BAD; NOT.");
        FootstepsAhead x = twins();
        int[] walkers = {-1, 4, 7, 32, Integer.MAX_VALUE, Integer.MIN_VALUE};
        for (int bits : walkers) {
            guard(x, bits, -1, -1);
        }
        guard(new FootstepsAhead(), 1, -1, -1);
        due.is("what -1", x.guard(1, -1), -1);
        due.is("what 2", x.guard(1, 2), -1);
        for (int walker = 2; walker < 5; walker++) {
            Due.walker(x, 6);
        }
        guard(x, 31, 2, 0);
        guard(x, 32, -1, -1);
    }

    private static void refusedChangesNothing() {
        due.on("What is answered so changes nothing.");
        FootstepsAhead x = lateTwins(3);
        FootstepsAhead y = lateTwins(3);
        Due.row(x, 1, 1, 1, 2);
        Due.row(y, 1, 1, 1, 2);
        due.is("read BAD", x.read(0, 3), -1);
        due.is("read -11", x.read(2, 0), -11);
        due.is("read -12", x.read(5, 0), -12);
        due.is("read STATE", x.read(1, 0), -5);
        due.is("look BAD", x.look(6), -1);
        due.is("look STATE", x.look(1), -5);
        due.is("cheapest BAD", x.cheapest(0, 8, 0), -1);
        due.is("cheapest NOT", x.cheapest(0, 0, 0), -2);
        due.is("guard BAD", x.guard(4, 0), -1);
        Alike.ask(due, "refused of readings", x, y);
    }
}
