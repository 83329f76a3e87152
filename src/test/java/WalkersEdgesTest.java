/** Promises 1 to 6, and what the Terms say of PLACES, WALKERS and WAYS: each edge by the words that name it. */
public final class WalkersEdgesTest {
    private static final Due due = new Due("WalkersEdgesTest");

    public static void main(String[] args) {
        constants();
        untroddenSnow();
        places();
        minutesBounds();
        minutesAtFirst();
        minutesBack();
        walkerNumbers();
        leadBounds();
        startBounds();
        fallBounds();
        oneToFourWays();
        oneToEightPlaces();
        firstWay();
        startsInItsFirstPlace();
        goesOnByMinutes();
        isNowhereBetween();
        followsOnItself();
        tracksBeginAndEnd();
        tracksOfNoLead();
        tracksOfTheLongestLead();
        tracksByTheWayTaken();
        placeInTheRow();
        oneLacks();
        oneIsNone();
        noSuchWayAtAll();
        nothingOnTheShelf();
        noRowOfBytes();
        fullOfWalkers();
        orderOfWalkerRefusals();
        furtherWayRefusals();
        fullOfWays();
        mendTellsWhatItWas();
        mendRefusals();
        mendOfUnlikePlaces();
        ofNumbers();
        ofRefusals();
        ofWaysAndPlaces();
        placeRefusals();
        placeBehindTheLast();
        refusedChangesNothing();
        due.end();
    }

    private static FootstepsAhead with(int... places) {
        FootstepsAhead x = new FootstepsAhead();
        Due.walker(x, places);
        return x;
    }

    private static void constants() {
        due.on("public static final int BAD = -1, NOT = -2, FULL = -3, STATE = -5, VOID = -2000000000;");
        int[] answers = {FootstepsAhead.BAD, FootstepsAhead.NOT, FootstepsAhead.FULL, FootstepsAhead.STATE};
        int[] want = {-1, -2, -3, -5};
        for (int i = 0; i < answers.length; i++) {
            due.is("constant " + i, answers[i], want[i]);
        }
        due.is("VOID", FootstepsAhead.VOID, -2000000000);
    }

    private static void untroddenSnow() {
        due.on("Untrodden snow.");
        FootstepsAhead x = new FootstepsAhead();
        for (int what = 0; what <= 5; what++) {
            due.is("count " + what, x.count(what), 0);
        }
        due.is("only the DAY of nobody holds", x.holding(-1), 1);
        due.is("it is 0", x.holding(0), 0);
        due.is("no tracks", x.sees(0, 0, 0), 0);
        due.is("nothing lived", x.led(3), -2);
    }

    private static void places() {
        due.on("PLACES 0 .. 7:");
        FootstepsAhead x = new FootstepsAhead();
        Due.row(x, 0, 0, -1, 0, 7, 8, 127, -128);
        due.is("by -1", x.walker(0, 1), -1);
        due.is("by 0 and 7", x.walker(0, 12), 0);
        due.is("by 8", x.walker(0, 31), -1);
        due.is("by 127", x.walker(0, 41), -1);
        due.is("by -128", x.walker(0, 51), -1);
        due.is("sees in -1", x.sees(0, -1, 0), -1);
        due.is("sees in 0", x.sees(0, 0, 0), 0);
        due.is("sees in 7", x.sees(0, 7, 0), 1);
        due.is("sees in 8", x.sees(0, 8, 0), -1);
        due.is("minutes from 0 to 7", x.of(7, 3), 5);
        due.is("minutes from 0 to 8", x.of(8, 3), -1);
        due.is("minutes from 8 to 0", x.of(80, 3), -1);
    }

    private static void minutesBounds() {
        due.on("MINUTES (1 .. 30;");
        FootstepsAhead x = with(0, 1);
        due.is("0", x.mend(1, 3, 0), -1);
        due.is("-1", x.mend(1, 3, -1), -1);
        due.is("31", x.mend(1, 3, 31), -1);
        due.is("as at first", x.of(1, 3), 5);
        due.is("1", x.mend(1, 3, 1), 5);
        due.is("there in 1", x.where(0, 0, 1), 1);
        due.is("30", x.mend(1, 3, 30), 1);
        due.is("there in 30", x.where(0, 0, 30), 1);
        due.is("is 30", x.of(1, 3), 30);
    }

    private static void minutesAtFirst() {
        due.on("5 at first; as many back)");
        FootstepsAhead x = new FootstepsAhead();
        for (int from = 0; from < 8; from++) {
            for (int to = 0; to < 8; to++) {
                due.is("from " + from + " to " + to, x.of(10 * from + to, 3), from == to ? -1 : 5);
            }
        }
    }

    private static void minutesBack() {
        due.on("as many back)");
        FootstepsAhead x = with(0, 7, 0);
        x.mend(7, 3, 9);
        due.is("back", x.of(70, 3), 9);
        due.is("there", x.where(0, 0, 9), 7);
        due.is("there and back", x.where(0, 0, 18), 0);
        due.is("mended back", x.mend(70, 3, 2), 9);
        due.is("there again", x.of(7, 3), 2);
        due.is("others stay", x.of(1, 3), 5);
        FootstepsAhead y = new FootstepsAhead();
        for (int number = 0; number < 28; number++) {
            int pair = pair(number);
            due.is("mend " + pair, y.mend(pair, 3, number + 1), 5);
        }
        for (int number = 0; number < 28; number++) {
            int pair = pair(number);
            due.is("of " + pair, y.of(pair, 3), number + 1);
            due.is("back of " + pair, y.of(pair % 10 * 10 + pair / 10, 3), number + 1);
        }
    }

    /** Each two PLACES once, now the lower one first, now the higher one. */
    private static int pair(int number) {
        int from = 0;
        int left = number;
        while (left >= 7 - from) {
            left -= 7 - from;
            from++;
        }
        int to = from + 1 + left;
        return number % 2 == 0 ? 10 * from + to : 10 * to + from;
    }

    private static void walkerNumbers() {
        due.on("WALKERS 0 .. 4, as they come:");
        FootstepsAhead x = new FootstepsAhead();
        Due.row(x, 0, 0, 3);
        for (int walker = 0; walker < 5; walker++) {
            due.is("nobody yet " + walker, x.of(walker, 0), -1);
            due.is("walker " + walker, x.walker(0, 1), walker);
            due.is("is there " + walker, x.of(walker, 0), 10);
            due.is("one day holds", x.holding(-1), 1);
            due.is("by it all take 0", x.takes(0, walker), 0);
        }
        due.is("no walker 5", x.of(5, 0), -1);
        due.is("no walker -1", x.of(-1, 0), -1);
        due.is("where is 5", x.where(0, 5, 0), -1);
        due.is("where is 4", x.where(0, 4, 0), 3);
        x.mend(4, 1, 1);
        due.is("tracks of 4", x.sees(0, 3, 0), 16);
        FootstepsAhead y = with(3);
        Due.way(y, 0, 4);
        due.is("0 sees nobody", y.holding(0), 0);
        Due.walker(y, 5, 3);
        due.is("0 sees who came", y.holding(0), 1);
    }

    private static void bounds(FootstepsAhead x, int what, int first, int most) {
        due.is("at first", x.of(0, what), first);
        due.is("-1", x.mend(0, what, -1), -1);
        due.is("one too many", x.mend(0, what, most + 1), -1);
        due.is("far too many", x.mend(0, what, Integer.MAX_VALUE), -1);
        due.is("far below", x.mend(0, what, Integer.MIN_VALUE), -1);
        due.is("as at first", x.of(0, what), first);
        due.is("the most", x.mend(0, what, most), first);
        due.is("is the most", x.of(0, what), most);
        due.is("the least", x.mend(0, what, 0), most);
        due.is("is the least", x.of(0, what), 0);
    }

    private static void leadBounds() {
        due.on("LEAD (0 .. 60 minutes; 10 at first)");
        bounds(with(0), 0, 10, 60);
    }

    private static void startBounds() {
        due.on("START (a minute 0 .. 200; 0 at first)");
        bounds(with(0), 1, 0, 200);
        FootstepsAhead x = with(4);
        x.mend(0, 1, 200);
        due.is("starts in 200", x.where(0, 0, 200), 4);
    }

    private static void fallBounds() {
        due.on("FALL (0 .. 99; 10 at first: what it costs to step beside)");
        bounds(with(0), 2, 10, 99);
        FootstepsAhead x = with(4);
        Due.way(x, 0, 5);
        due.is("costs 10", x.day(1, 1), 10);
        x.mend(0, 2, 99);
        due.is("costs 99", x.day(1, 1), 99);
        x.mend(0, 2, 0);
        due.is("costs 0", x.day(1, 1), 0);
    }

    private static void oneToFourWays() {
        due.on("each with 1 .. 4 WAYS:");
        FootstepsAhead x = with(0);
        due.is("one", x.of(0, 4), 1);
        for (int way = 1; way < 4; way++) {
            due.is("no way yet " + way, x.of(0, 5 + way), -1);
            due.is("no day yet " + way, x.day(way, 1), -1);
            due.is("way " + way, Due.way(x, 0, way), way);
            due.is("is a day " + way, x.day(way, 1), 10);
        }
        due.is("a fifth", Due.way(x, 0, 4), -3);
        due.is("four", x.of(0, 4), 4);
    }

    private static void oneToEightPlaces() {
        due.on("rows of 1 .. 8 PLACES");
        FootstepsAhead x = new FootstepsAhead();
        x.row(0, 0, 60);
        due.is("none", x.walker(0, 0), -1);
        due.is("nine", x.walker(0, 9), -1);
        due.is("one", x.walker(0, 1), 0);
        due.is("eight", x.walker(0, 8), 1);
        due.is("one is one", x.of(0, 5), 1);
        due.is("eight are eight", x.of(1, 5), 8);
        due.is("no further way of none", x.way(0, 0, 0), -1);
        due.is("no further way of nine", x.way(0, 0, 9), -1);
        due.is("a further way of eight", x.way(0, 0, 8), 1);
        due.is("on each of eight", x.where(0, 1, 7), 0);
        due.is("behind the eighth", x.where(0, 1, 8), -2);
    }

    private static void firstWay() {
        due.on("one's first WAY is the one it came with");
        FootstepsAhead x = with(6, 5);
        Due.way(x, 0, 4);
        due.is("way 0", x.place(0, 0), 6);
        due.is("by DAY 0", x.where(0, 0, 0), 6);
        due.is("way 1", x.place(1, 0), 4);
        due.is("by DAY 1", x.where(1, 0, 0), 4);
    }

    private static void startsInItsFirstPlace() {
        due.on("in its first PLACE in the minute START");
        FootstepsAhead x = with(6, 5);
        x.mend(0, 1, 17);
        due.is("before", x.where(0, 0, 16), -2);
        due.is("in its start", x.where(0, 0, 17), 6);
        due.is("behind", x.where(0, 0, 18), -2);
    }

    private static void goesOnByMinutes() {
        due.on("then on to the next one as MINUTES tell");
        FootstepsAhead x = with(0, 1, 2, 1);
        x.mend(12, 3, 7);
        due.is("at 1", x.where(0, 0, 5), 1);
        due.is("at 2", x.where(0, 0, 12), 2);
        due.is("at 1 again", x.where(0, 0, 19), 1);
        due.is("gone", x.where(0, 0, 20), -2);
    }

    private static void isNowhereBetween() {
        due.on("it IS in each PLACE in the minute in which it comes there (none between;");
        FootstepsAhead x = with(3, 4);
        for (int minute = 1; minute < 5; minute++) {
            due.is("in minute " + minute, x.where(0, 0, minute), -2);
        }
        due.is("there", x.where(0, 0, 5), 4);
        due.is("behind", x.where(0, 0, 6), -2);
    }

    private static void followsOnItself() {
        due.on("where a PLACE follows on itself, 1 minute later)");
        FootstepsAhead x = with(3, 3, 4, 4);
        int[] at = {3, 3, -2, -2, -2, -2, 4, 4, -2};
        for (int minute = 0; minute < at.length; minute++) {
            due.is("in minute " + minute, x.where(0, 0, minute), at[minute]);
        }
    }

    private static void tracksBeginAndEnd() {
        due.on("if it will be there in a minute of m + 1 .. m + LEAD by the WAY that it takes.");
        FootstepsAhead x = with(0, 1);
        x.mend(0, 1, 100);
        x.mend(0, 0, 7);
        due.is("8 ahead", x.sees(0, 0, 92), 0);
        due.is("7 ahead", x.sees(0, 0, 93), 1);
        due.is("1 ahead", x.sees(0, 0, 99), 1);
        due.is("as it is there", x.sees(0, 0, 100), 0);
        due.is("behind", x.sees(0, 0, 101), 0);
        due.is("of the next place, 8 ahead", x.sees(0, 1, 97), 0);
        due.is("of the next place, 7 ahead", x.sees(0, 1, 98), 1);
    }

    private static void tracksOfNoLead() {
        due.on("LEAD (0 .. 60 minutes; 10 at first)");
        FootstepsAhead x = with(0, 1);
        x.mend(0, 1, 100);
        due.is("10 ahead", x.sees(0, 0, 90), 1);
        due.is("11 ahead", x.sees(0, 0, 89), 0);
        x.mend(0, 0, 0);
        due.is("1 ahead, no lead", x.sees(0, 0, 99), 0);
        due.is("no lead", x.sees(0, 0, 100), 0);
        x.mend(0, 0, 1);
        due.is("1 ahead, lead 1", x.sees(0, 0, 99), 1);
        due.is("2 ahead, lead 1", x.sees(0, 0, 98), 0);
    }

    private static void tracksOfTheLongestLead() {
        due.on("LEAD (0 .. 60 minutes; 10 at first)");
        FootstepsAhead x = with(0);
        x.mend(0, 1, 200);
        x.mend(0, 0, 60);
        due.is("61 ahead", x.sees(0, 0, 139), 0);
        due.is("60 ahead", x.sees(0, 0, 140), 1);
        FootstepsAhead y = with(7);
        y.mend(0, 0, 60);
        due.is("the minutes ahead of the first are none", y.sees(0, 7, 0), 0);
    }

    private static void tracksByTheWayTaken() {
        due.on("by the WAY that it takes.");
        FootstepsAhead x = with(0, 1);
        Due.way(x, 0, 0, 2);
        due.is("by DAY 0 at 1", x.sees(0, 1, 0), 1);
        due.is("by DAY 0 at 2", x.sees(0, 2, 0), 0);
        due.is("by DAY 1 at 1", x.sees(1, 1, 0), 0);
        due.is("by DAY 1 at 2", x.sees(1, 2, 0), 1);
    }

    private static void placeInTheRow() {
        due.on("(in: 10 times the place in the ROW, and how many PLACES)");
        FootstepsAhead x = new FootstepsAhead();
        Due.row(x, 0, 0, 1, 2, 3);
        due.is("from 1 on, 2", x.walker(0, 12), 0);
        due.is("its first", x.place(0, 0), 2);
        due.is("its second", x.place(0, 1), 3);
        x.row(2, 0, 60);
        x.put(2, 1, 4);
        x.put(2, 58, 6);
        x.put(2, 59, 7);
        due.is("from 1 on, 8", x.walker(2, 18), 1);
        due.is("its first", x.place(10, 0), 4);
        due.is("from 58 on, 2", x.walker(2, 582), 2);
        due.is("its first", x.place(20, 0), 6);
        due.is("its second", x.place(20, 1), 7);
        due.is("from 59 on, 2", x.walker(2, 592), -1);
        due.is("below 0", x.walker(0, -1), -1);
        due.is("place -1", x.walker(0, -9), -1);
        due.is("far below", x.walker(0, Integer.MIN_VALUE + 1), -1);
        due.is("far off", x.walker(0, Integer.MAX_VALUE), -1);
        x.row(1, 0, 60);
        x.put(1, 59, 6);
        due.is("the last of 60", x.way(0, 1, 591), 1);
        due.is("is 6", x.place(1, 0), 6);
        due.is("behind the last of 60", x.way(0, 1, 601), -1);
        due.is("8 up to the last", x.way(0, 1, 528), 2);
        due.is("8 up to behind the last", x.way(0, 1, 538), -1);
    }

    private static void oneLacks() {
        due.on("where one lacks, or is none, there is no such WAY.");
        FootstepsAhead x = new FootstepsAhead();
        Due.row(x, 0, 0, 1, 2, 3);
        due.is("four of three", x.walker(0, 4), -1);
        due.is("three from 1 on", x.walker(0, 13), -1);
        due.is("one from 3 on", x.walker(0, 31), -1);
        due.is("three of three", x.walker(0, 3), 0);
        due.is("a further one, four of three", x.way(0, 0, 4), -1);
        due.is("a further one, one from 3 on", x.way(0, 0, 31), -1);
        x.row(0, 0, 0);
        due.is("of an empty row", x.walker(0, 1), -1);
        due.is("nobody else came", x.count(0), 1);
        due.is("no other way came", x.count(1), 1);
    }

    private static void oneIsNone() {
        due.on("or is none, there is no such WAY.");
        FootstepsAhead x = new FootstepsAhead();
        Due.row(x, 0, 0, 1, 8, 3, -1, 5);
        due.is("8 among them", x.walker(0, 3), -1);
        due.is("8 is the last", x.walker(0, 2), -1);
        due.is("-1 is the first", x.walker(0, 32), -1);
        due.is("ahead of 8", x.walker(0, 1), 0);
        due.is("between them", x.walker(0, 21), 1);
        due.is("a further way, -1 is the last", x.way(0, 0, 22), -1);
        due.is("a further way behind -1", x.way(0, 0, 41), 1);
    }

    private static void noSuchWayAtAll() {
        due.on("BAD (no such WAY, too), -11, -12 (no ROW of bytes), FULL: 5.");
        FootstepsAhead x = new FootstepsAhead();
        due.is("shelf -1", x.walker(-1, 1), -1);
        due.is("shelf 6", x.walker(6, 1), -1);
        due.is("shelf far off", x.walker(Integer.MAX_VALUE, 1), -1);
        due.is("shelf far below", x.walker(Integer.MIN_VALUE, 1), -1);
        due.is("of 0 places, of nothing", x.walker(5, 0), -1);
        due.is("of 9 places, of nothing", x.walker(5, 9), -1);
        due.is("of -1, of nothing", x.walker(5, -1), -1);
        x.row(5, 1, 3);
        due.is("of 0 places, of shorts", x.walker(5, 0), -1);
        due.is("of 9 places, of shorts", x.walker(5, 9), -1);
    }

    private static void nothingOnTheShelf() {
        due.on("-11 nothing is there where something is wanted;");
        FootstepsAhead x = new FootstepsAhead();
        for (int shelf = 0; shelf < 6; shelf++) {
            due.is("walker of shelf " + shelf, x.walker(shelf, 1), -11);
        }
        Due.walker(x, 0);
        due.is("way of nothing", x.way(0, 0, 1), -11);
        x.keep(5, -1);
        due.is("walker of what was put away", x.walker(5, 1), -11);
        due.is("way of what was put away", x.way(0, 5, 1), -11);
    }

    private static void noRowOfBytes() {
        due.on("-12 (no ROW of bytes)");
        FootstepsAhead x = new FootstepsAhead();
        Due.walker(x, 0);
        x.body(0);
        x.keep(0, 0);
        due.is("walker of a body", x.walker(0, 1), -12);
        due.is("way of a body", x.way(0, 0, 1), -12);
        for (int sort = 1; sort < 5; sort++) {
            x.row(0, sort, 3);
            due.is("walker of sort " + sort, x.walker(0, 1), -12);
            due.is("way of sort " + sort, x.way(0, 0, 1), -12);
        }
        x.row(0, 0, 3);
        due.is("walker of bytes", x.walker(0, 1), 1);
    }

    private static void fullOfWalkers() {
        due.on("FULL: 5.");
        FootstepsAhead x = new FootstepsAhead();
        x.row(0, 0, 1);
        for (int walker = 0; walker < 5; walker++) {
            due.is("walker " + walker, x.walker(0, 1), walker);
        }
        due.is("a sixth", x.walker(0, 1), -3);
        due.is("five", x.count(0), 5);
        due.is("a further way still comes", x.way(4, 0, 1), 1);
    }

    private static void orderOfWalkerRefusals() {
        due.on("Answers, of several the one named first: BAD (-1)");
        FootstepsAhead x = new FootstepsAhead();
        x.row(0, 0, 1);
        for (int walker = 0; walker < 5; walker++) {
            x.walker(0, 1);
        }
        due.is("full, and no shelf", x.walker(6, 1), -1);
        due.is("full, and no such way", x.walker(0, 2), -1);
        due.is("full, and of 0 places", x.walker(0, 0), -1);
        due.is("full, and nothing there", x.walker(1, 1), -11);
        x.row(1, 1, 1);
        due.is("full, and shorts there", x.walker(1, 1), -12);
    }

    private static void furtherWayRefusals() {
        due.on("A further WAY of a WALKER: which. BAD, -11, -12, FULL: 4.");
        FootstepsAhead x = new FootstepsAhead();
        x.row(0, 0, 1);
        due.is("of nobody", x.way(0, 0, 1), -1);
        due.is("of nobody, of nothing", x.way(0, 1, 1), -1);
        x.walker(0, 1);
        due.is("of -1", x.way(-1, 0, 1), -1);
        due.is("of 1", x.way(1, 0, 1), -1);
        due.is("of far off", x.way(Integer.MAX_VALUE, 0, 1), -1);
        due.is("of far below", x.way(Integer.MIN_VALUE, 0, 1), -1);
        due.is("shelf -1", x.way(0, -1, 1), -1);
        due.is("shelf 6", x.way(0, 6, 1), -1);
        due.is("of 0 places", x.way(0, 0, 0), -1);
        due.is("of 9 places", x.way(0, 0, 9), -1);
        due.is("below 0", x.way(0, 0, -1), -1);
        due.is("nothing there", x.way(0, 1, 1), -11);
        due.is("the first", x.way(0, 0, 1), 1);
    }

    private static void fullOfWays() {
        due.on("FULL: 4.");
        FootstepsAhead x = new FootstepsAhead();
        x.row(0, 0, 1);
        x.walker(0, 1);
        x.walker(0, 1);
        for (int way = 1; way < 4; way++) {
            due.is("way " + way, x.way(0, 0, 1), way);
        }
        due.is("a fifth", x.way(0, 0, 1), -3);
        due.is("a fifth of 2 places of 1", x.way(0, 0, 2), -1);
        due.is("a fifth of nothing", x.way(0, 1, 1), -11);
        due.is("four", x.of(0, 4), 4);
        due.is("the other has one", x.of(1, 4), 1);
        due.is("and gets another", x.way(1, 0, 1), 1);
        due.is("six of all", x.count(1), 6);
    }

    private static void mendTellsWhatItWas() {
        due.on("becomes v: what it was. BAD.");
        FootstepsAhead x = with(0);
        Due.walker(x, 0);
        for (int what = 0; what < 3; what++) {
            int first = what == 1 ? 0 : 10;
            due.is("what " + what, x.mend(0, what, 20), first);
            due.is("what " + what + " again", x.mend(0, what, 30), 20);
            due.is("the same number, what " + what, x.mend(0, what, 30), 30);
            due.is("the other's stays", x.of(1, what), first);
        }
        due.is("minutes", x.mend(43, 3, 20), 5);
        due.is("minutes again", x.mend(34, 3, 30), 20);
    }

    private static void mendRefusals() {
        due.on("LEAD (what 0), START (1), FALL (2) of a WALKER");
        FootstepsAhead x = with(0);
        int[] nobody = {-1, 1, 5, 10, Integer.MAX_VALUE, Integer.MIN_VALUE};
        for (int number : nobody) {
            for (int what = 0; what < 3; what++) {
                due.is("mend " + number + " " + what, x.mend(number, what, 5), -1);
            }
        }
        int[] whats = {-1, 4, 5, 8, Integer.MAX_VALUE, Integer.MIN_VALUE};
        for (int what : whats) {
            due.is("mend 0 " + what, x.mend(0, what, 5), -1);
        }
        due.is("no change was made", x.count(3), 0);
    }

    private static void mendOfUnlikePlaces() {
        due.on("(3; number 10 times the one and the other, unlike)");
        FootstepsAhead x = new FootstepsAhead();
        int[] none = {0, 11, 77, 8, 9, 18, 78, 80, 87, 90, 100, 701, -1, -7, -12, Integer.MAX_VALUE, Integer.MIN_VALUE};
        for (int number : none) {
            due.is("mend " + number, x.mend(number, 3, 6), -1);
            due.is("of " + number, x.of(number, 3), -1);
        }
        int[] pairs = {1, 10, 7, 70, 67, 76};
        for (int i = 0; i < pairs.length; i++) {
            due.is("mend " + pairs[i], x.mend(pairs[i], 3, 6), i % 2 == 0 ? 5 : 6);
        }
    }

    private static void ofNumbers() {
        due.on("As of mend() (0 to 3);");
        FootstepsAhead x = with(0);
        int[] want = {10, 0, 10};
        for (int what = 0; what < 3; what++) {
            due.is("of 0 " + what, x.of(0, what), want[what]);
        }
        due.is("minutes", x.of(1, 3), 5);
        due.is("minutes without anybody", new FootstepsAhead().of(76, 3), 5);
    }

    private static void ofRefusals() {
        due.on("5 .. 8 how many PLACES a WAY (0 .. 3) has. BAD.");
        FootstepsAhead x = with(0);
        int[] nobody = {-1, 1, 5, Integer.MAX_VALUE, Integer.MIN_VALUE};
        for (int number : nobody) {
            for (int what = 0; what < 9; what++) {
                if (what != 3) {
                    due.is("of " + number + " " + what, x.of(number, what), -1);
                }
            }
        }
        int[] whats = {-1, 9, 10, Integer.MAX_VALUE, Integer.MIN_VALUE};
        for (int what : whats) {
            due.is("of 0 " + what, x.of(0, what), -1);
        }
    }

    private static void ofWaysAndPlaces() {
        due.on("of a WALKER 4 how many WAYS, 5 .. 8 how many PLACES a WAY (0 .. 3) has.");
        FootstepsAhead x = with(1, 2, 3);
        due.is("one way", x.of(0, 4), 1);
        due.is("of three", x.of(0, 5), 3);
        due.is("no second way", x.of(0, 6), -1);
        Due.way(x, 0, 1);
        Due.way(x, 0, 1, 2, 3, 4, 5, 6, 7, 0);
        due.is("no fourth way", x.of(0, 8), -1);
        Due.way(x, 0, 1, 2);
        int[] want = {4, 3, 1, 8, 2};
        for (int what = 4; what <= 8; what++) {
            due.is("of 0 " + what, x.of(0, what), want[what - 4]);
        }
    }

    private static void placeRefusals() {
        due.on("(wv: 10 times the WALKER, and the WAY)");
        FootstepsAhead x = with(5);
        Due.walker(x, 6);
        Due.way(x, 1, 7);
        due.is("the other's first", x.place(10, 0), 6);
        due.is("the other's second", x.place(11, 0), 7);
        FootstepsAhead y = new FootstepsAhead();
        for (int walker = 0; walker < 5; walker++) {
            Due.walker(y, walker);
            for (int way = 1; way < 4; way++) {
                Due.way(y, walker, way + 4);
            }
        }
        for (int wv = 0; wv < 60; wv++) {
            int way = wv % 10;
            due.is("of " + wv, y.place(wv, 0), wv >= 50 || way > 3 ? -1 : way == 0 ? wv / 10 : way + 4);
        }
        int[] none = {-1, -10, 1, 2, 3, 4, 9, 12, 13, 14, 19, 20, 40, 50, Integer.MAX_VALUE, Integer.MIN_VALUE};
        for (int wv : none) {
            due.is("of " + wv, x.place(wv, 0), -1);
        }
        due.is("k -1", x.place(0, -1), -1);
        due.is("k far below", x.place(0, Integer.MIN_VALUE), -1);
    }

    private static void placeBehindTheLast() {
        due.on("BAD; NOT: there are not as many.");
        FootstepsAhead x = with(5, 4);
        due.is("the last", x.place(0, 1), 4);
        due.is("behind the last", x.place(0, 2), -2);
        due.is("far behind the last", x.place(0, Integer.MAX_VALUE), -2);
        Due.way(x, 0, 0, 1, 2, 3, 4, 5, 6, 7);
        due.is("the eighth", x.place(1, 7), 7);
        due.is("no ninth", x.place(1, 8), -2);
        due.is("of no way", x.place(2, 8), -1);
    }

    private static FootstepsAhead busy() {
        FootstepsAhead x = with(0, 1, 0);
        Due.way(x, 0, 2);
        for (int i = 0; i < 4; i++) {
            Due.walker(x, 0, 1);
        }
        Due.way(x, 0, 3);
        Due.way(x, 0, 4);
        Due.row(x, 0, 0, 1, 8, 2);
        x.row(1, 1, 3);
        x.mend(0, 0, 20);
        x.mend(0, 1, 3);
        x.undo();
        x.live(0);
        return x;
    }

    private static void refusedChangesNothing() {
        due.on("What is answered so changes nothing.");
        FootstepsAhead x = busy();
        FootstepsAhead y = busy();
        due.is("walker BAD", x.walker(0, 2), -1);
        due.is("walker -11", x.walker(2, 1), -11);
        due.is("walker -12", x.walker(1, 1), -12);
        due.is("walker FULL", x.walker(0, 1), -3);
        due.is("way BAD", x.way(1, 0, 3), -1);
        due.is("way -11", x.way(1, 2, 1), -11);
        due.is("way -12", x.way(1, 1, 1), -12);
        due.is("way FULL", x.way(0, 0, 1), -3);
        due.is("mend BAD lead", x.mend(0, 0, 61), -1);
        due.is("mend BAD start", x.mend(0, 1, -1), -1);
        due.is("mend BAD minutes", x.mend(1, 3, 31), -1);
        due.is("of BAD", x.of(0, 9), -1);
        due.is("place NOT", x.place(0, 3), -2);
        Alike.ask(due, "refused of walkers", x, y);
    }
}
