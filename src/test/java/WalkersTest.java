/** Promises 1 to 6: a new object, walker, way, mend, of, place. */
public final class WalkersTest {
    private static final Due due = new Due("WalkersTest");

    public static void main(String[] args) {
        untroddenSnow();
        comingOfWalkers();
        refusalsOfWays();
        furtherWays();
        mending();
        placesOfWays();
        due.end();
    }

    private static void untroddenSnow() {
        FootstepsAhead x = new FootstepsAhead();
        for (int what = 0; what <= 5; what++) {
            due.is("new: count " + what, x.count(what), 0);
        }
        due.is("new: holding -1", x.holding(-1), 1);
        due.is("new: holding 0", x.holding(0), 0);
        for (int what = 0; what <= 2; what++) {
            due.is("new: led " + what, x.led(what), 0);
        }
        due.is("new: led 3", x.led(3), -2);
        due.is("new: back", x.back(), -5);
        due.is("new: trace 0", x.trace(0), -1);
        for (int pair = 0; pair < 100; pair++) {
            boolean two = pair / 10 < 8 && pair % 10 < 8 && pair / 10 != pair % 10;
            due.is("new: of " + pair, x.of(pair, 3), two ? 5 : -1);
        }
        for (int shelf = 0; shelf < 6; shelf++) {
            due.is("new: element", x.element(shelf, 0), Long.MIN_VALUE);
            due.is("new: put", x.put(shelf, 0, 1), -11);
        }
        FootstepsAhead y = new FootstepsAhead();
        Due.walker(x, 1);
        due.is("another object stays new", y.count(0), 0);
    }

    private static void comingOfWalkers() {
        FootstepsAhead x = new FootstepsAhead();
        Due.row(x, 0, 0, 0, 1, 2, 3, 4, 5, 6, 7, 7);
        due.is("walker of 8 places", x.walker(0, 8), 0);
        due.is("walker of the last 8", x.walker(0, 18), 1);
        due.is("walker of 1 place", x.walker(0, 81), 2);
        due.is("walker from the middle", x.walker(0, 32), 3);
        due.is("walker 4", x.walker(0, 1), 4);
        due.is("a sixth walker", x.walker(0, 1), -3);
        due.is("a sixth, and no such way", x.walker(0, 82), -1);
        due.is("a sixth, and nothing there", x.walker(1, 1), -11);
        due.is("count 0", x.count(0), 5);
        due.is("count 1", x.count(1), 5);
        due.is("first of 1", x.place(10, 0), 1);
        due.is("last of 1", x.place(10, 7), 7);
        due.is("of 2", x.place(20, 0), 7);
        due.is("of 3, 0", x.place(30, 0), 3);
        due.is("of 3, 1", x.place(30, 1), 4);
        due.is("of 3, 2", x.place(30, 2), -2);
        int[] first = {10, 0, 10, -1, 1, 1, -1, -1, -1}; // in place of MINUTES, none
        for (int what = 0; what < first.length; what++) {
            int want = what == 3 ? 5 : first[what];
            due.is("of 4 " + what, x.of(4, what), want);
        }
        for (int v = 1; v < 4; v++) {
            due.is("way of 4", x.way(4, 0, 10 * v + 1), v);
            due.is("place of 4", x.place(40 + v, 0), v);
            due.is("none of 4 behind", x.place(40 + v, 1), -2);
        }
        x.put(0, 0, 6);
        due.is("a way is kept apart from its row", x.place(0, 0), 0);
    }

    private static void refusalsOfWays() {
        FootstepsAhead x = new FootstepsAhead();
        due.is("no shelf -1", x.walker(-1, 1), -1);
        due.is("no shelf 6", x.walker(6, 1), -1);
        due.is("nothing there", x.walker(5, 1), -11);
        due.is("no places, nothing there", x.walker(5, 10), -1);
        due.is("9 places, nothing there", x.walker(5, 9), -1);
        due.is("below 0, nothing there", x.walker(5, -1), -1);
        due.is("far below 0", x.walker(5, Integer.MIN_VALUE), -1);
        for (int sort = 1; sort <= 4; sort++) {
            x.row(5, sort, 3);
            due.is("a row of sort " + sort, x.walker(5, 1), -12);
        }
        x.body(0);
        x.keep(5, 0);
        due.is("a body", x.walker(5, 1), -12);
        x.row(5, 0, 3);
        due.is("one lacks", x.walker(5, 4), -1);
        due.is("one lacks from 1 on", x.walker(5, 13), -1);
        due.is("all lack", x.walker(5, 31), -1);
        due.is("far off", x.walker(5, Integer.MAX_VALUE), -1);
        x.put(5, 1, 8);
        due.is("8 is no place", x.walker(5, 2), -1);
        x.put(5, 1, -1);
        due.is("-1 is no place", x.walker(5, 2), -1);
        due.is("ahead of it", x.walker(5, 1), 0);
        due.is("behind it", x.walker(5, 21), 1);
        x.row(5, 0, 0);
        due.is("an empty row", x.walker(5, 1), -1);
        due.is("no more came", x.count(0), 2);
    }

    private static void furtherWays() {
        FootstepsAhead x = new FootstepsAhead();
        due.is("way of nobody", x.way(0, 0, 1), -1);
        Due.walker(x, 0);
        Due.walker(x, 1);
        Due.row(x, 0, 0, 2, 3, 4);
        due.is("way -1", x.way(-1, 0, 1), -1);
        due.is("way 2", x.way(2, 0, 1), -1);
        due.is("way no shelf", x.way(0, 6, 1), -1);
        due.is("way nothing there", x.way(0, 1, 1), -11);
        x.row(1, 1, 3);
        due.is("way of shorts", x.way(0, 1, 1), -12);
        due.is("way that lacks", x.way(0, 0, 4), -1);
        due.is("way without places", x.way(0, 0, 0), -1);
        due.is("way 1", x.way(1, 0, 3), 1);
        due.is("way 2", x.way(1, 0, 12), 2);
        due.is("way 3", x.way(1, 0, 21), 3);
        due.is("a fifth way", x.way(1, 0, 1), -3);
        due.is("a fifth way that lacks", x.way(1, 0, 4), -1);
        due.is("a fifth way of shorts", x.way(1, 1, 1), -12);
        due.is("ways of 1", x.of(1, 4), 4);
        due.is("ways of 0", x.of(0, 4), 1);
        due.is("ways of all", x.count(1), 5);
        int[] lengths = {1, 3, 2, 1};
        for (int v = 0; v < 4; v++) {
            due.is("places of way " + v, x.of(1, 5 + v), lengths[v]);
            due.is("places of a way that is not there", x.of(0, 5 + v), v == 0 ? 1 : -1);
        }
        Due.row(x, 2, 0, 0, 0, 0, 0, 0, 0, 0, 0, 0, 1, 2, 3, 4, 5, 6, 7);
        due.is("from place 9 on", x.way(0, 2, 97), 1);
        due.is("its first", x.place(1, 0), 1);
        due.is("its last", x.place(1, 6), 7);
        due.is("from place 14 on", x.way(0, 2, 142), 2);
        due.is("its first", x.place(2, 0), 6);
        due.is("from place 15 on, one lacks", x.way(0, 2, 152), -1);
        due.is("way 2's first", x.place(12, 0), 3);
        due.is("way 2's last", x.place(12, 1), 4);
    }

    private static void mending() {
        FootstepsAhead x = new FootstepsAhead();
        int[] most = {60, 200, 99};
        for (int what = 0; what < 3; what++) {
            due.is("mend nobody", x.mend(0, what, 1), -1);
        }
        Due.walker(x, 0);
        Due.walker(x, 1);
        for (int what = 0; what < 3; what++) {
            int was = x.of(1, what);
            due.is("mend below", x.mend(1, what, -1), -1);
            due.is("mend above", x.mend(1, what, most[what] + 1), -1);
            due.is("mend to most", x.mend(1, what, most[what]), was);
            due.is("is most", x.of(1, what), most[what]);
            due.is("mend to 0", x.mend(1, what, 0), most[what]);
            due.is("mend to 0 again", x.mend(1, what, 0), 0);
            due.is("is 0", x.of(1, what), 0);
            due.is("the other stays", x.of(0, what), was);
            due.is("mend 2", x.mend(2, what, 1), -1);
            due.is("mend -1", x.mend(-1, what, 1), -1);
        }
        due.is("minutes below", x.mend(12, 3, 0), -1);
        due.is("minutes above", x.mend(12, 3, 31), -1);
        due.is("minutes 30", x.mend(12, 3, 30), 5);
        due.is("as many back", x.of(21, 3), 30);
        due.is("minutes 1", x.mend(21, 3, 1), 30);
        due.is("as many there", x.of(12, 3), 1);
        due.is("others stay", x.of(13, 3), 5);
        int[] none = {11, 0, 8, 80, 18, 81, 98, 100, -1, -12, 120, Integer.MAX_VALUE, Integer.MIN_VALUE};
        for (int pair : none) {
            due.is("no two places " + pair, x.mend(pair, 3, 5), -1);
            due.is("of no two places " + pair, x.of(pair, 3), -1);
        }
        due.is("7 and 0", x.mend(70, 3, 9), 5);
        due.is("0 and 7", x.of(7, 3), 9);
        int[] whats = {-1, 4, 5, 8, 9, Integer.MAX_VALUE, Integer.MIN_VALUE};
        for (int what : whats) {
            due.is("mend what " + what, x.mend(0, what, 1), -1);
        }
        due.is("of what -1", x.of(0, -1), -1);
        due.is("of what 9", x.of(0, 9), -1);
        due.is("of what far", x.of(0, Integer.MAX_VALUE), -1);
        due.is("of what far below", x.of(0, Integer.MIN_VALUE), -1);
        due.is("of nobody's ways", x.of(2, 4), -1);
        due.is("of nobody's way", x.of(-1, 5), -1);
        due.is("BAD is no change", x.count(3), 9);
    }

    private static void placesOfWays() {
        FootstepsAhead x = new FootstepsAhead();
        Due.walker(x, 3, 3, 4);
        Due.way(x, 0, 7);
        due.is("place 0", x.place(0, 0), 3);
        due.is("place 1", x.place(0, 1), 3);
        due.is("place 2", x.place(0, 2), 4);
        due.is("place 3", x.place(0, 3), -2);
        due.is("place far", x.place(0, Integer.MAX_VALUE), -2);
        due.is("place -1", x.place(0, -1), -1);
        due.is("of way 1", x.place(1, 0), 7);
        due.is("of way 1, 1", x.place(1, 1), -2);
        due.is("no way 2", x.place(2, 0), -1);
        due.is("no way 9", x.place(9, 0), -1);
        due.is("no walker 1", x.place(10, 0), -1);
        due.is("no way -1", x.place(-1, 0), -1);
        due.is("no way -10", x.place(-10, 0), -1);
        due.is("far", x.place(Integer.MAX_VALUE, 0), -1);
    }
}
