import java.util.Random;

/** Runs of drawn calls, always the same ones, each answered by the program and by Model alike. */
public final class RandomRunsTest {
    private static final String[] LAWS = {
        "n", "n>0?1;k%2", "s", "s*3+k", "l>20?n;2-n", "!n", "n=1|m>10", "w-1-n", "-s/2", "s%3?s%3;k+1", "m+l*n",
        "k=0?n>0;k=1?!(s&1);n+s", "0?3", "(s-k)*(n+1)%5", "k?!n;n", "s>7?2;s>3?1;s>0?3;0", "1", "2", "n=0", "!!s|-k",
    };

    private static final String[] FAIR_LAWS = {
        "n", "!n", "n>0", "n>1", "s%2", "s/2%2", "s%3", "n=1", "(s+k)%w", "n*2+k", "k%2?!n;n", "k=0?!n;n", "l>12?n;!n",
        "l>25?1;l>9?n>1;!n", "s>k", "n%2", "!(n%2)", "k=0?s/2;k=1?!(s%2);n", "s=3|s=4", "m+n",
    };

    private final Random draw;
    private final FootstepsAhead x = new FootstepsAhead();
    private final Model m = new Model();
    private final Due due;
    private final String run;
    private int size;
    private final int seed;
    private int calls;

    private RandomRunsTest(int seed, Due due) {
        this.draw = new Random(seed * 1000003L);
        this.due = due;
        this.run = "run " + seed + " ";
        this.seed = seed;
        this.size = seed / 2 % 3;
    }

    public static void main(String[] args) {
        Due due = new Due("RandomRunsTest");
        for (int seed = 1; seed <= 800 && due.wrong() == 0; seed++) {
            new RandomRunsTest(seed, due).go();
        }
        due.end();
    }

    private void go() {
        boolean near = seed % 2 == 0;
        if (near) {
            neighbours();
        } else {
            people();
        }
        for (int i = 0; calls < 470; i++) {
            if (near) {
                neighbourly(i);
            } else {
                one(i);
            }
        }
    }

    private int to(int bound) {
        return draw.nextInt(bound);
    }

    /** Mostly within the bound, now and then just outside or far off. */
    private int near(int bound) {
        int how = to(40);
        if (how == 0) {
            return -1;
        }
        if (how == 1) {
            return bound;
        }
        if (how == 2) {
            return draw.nextInt();
        }
        return bound <= 0 ? 0 : to(bound);
    }

    private void both(String call, long got, long want) {
        calls++;
        due.is(run + call, got, want);
    }

    /** Who sees much of the others, so that many days hold or none does. */
    private void neighbours() {
        int walkers = 2 + to(4);
        int places = 2 + to(3);
        int base = to(3) == 0 ? 0 : to(70);
        int minutes = 1 + to(6);
        both("mend minutes", x.mend(1, 3, minutes), m.mend(1, 3, minutes));
        for (int w = 0; w < walkers; w++) {
            int home = to(places);
            int ways = 2 + to(3) / 2;
            for (int v = 0; v < ways; v++) {
                int n = 2 + to(4);
                both("row", x.row(0, 0, n), m.row(0, 0, n));
                for (int k = 0; k < n; k++) {
                    int p = k == 0 || to(3) == 0 ? home : to(places);
                    both("put", x.put(0, k, p), m.put(0, k, p));
                }
                if (v == 0) {
                    both("walker", x.walker(0, n), m.walker(0, n));
                } else {
                    both("way", x.way(w, 0, n), m.way(w, 0, n));
                }
            }
            int start = base + to(4);
            both("mend start", x.mend(w, 1, start), m.mend(w, 1, start));
            int fall = to(12);
            both("mend fall", x.mend(w, 2, fall), m.mend(w, 2, fall));
        }
    }

    private void neighbourly(int i) {
        String at = "neighbours, call " + i + " ";
        int how = to(12);
        if (how == 0) {
            lawText(FAIR_LAWS[to(FAIR_LAWS.length)]);
        } else if (how == 1) {
            int walker = to(m.walkers.size());
            int lead = to(40);
            both(at + "mend lead", x.mend(walker, 0, lead), m.mend(walker, 0, lead));
        } else if (how == 2) {
            both(at + "undo", x.undo(), m.undo());
        } else if (how < 5) {
            int[] rare = {7, 8, 9, 11, 12, 13, 15};
            ask(at, rare[to(rare.length)]);
        } else if (how < 8) {
            deed(at, to(5));
        } else {
            ask(at, to(18));
        }
    }

    private void people() {
        int[] mostWays = {2, 3, 4};
        int walkers = 1 + to(size == 2 && to(3) > 0 ? 4 : 5);
        int places = 2 + to(5);
        int late = to(8) == 0 ? 185 : 0;
        for (int i = 0; i < 12 && late > 0; i++) {
            int pair = to(places) * 10 + to(places);
            int minutes = 25 + to(6);
            both("mend minutes", x.mend(pair, 3, minutes), m.mend(pair, 3, minutes));
        }
        for (int w = 0; w < walkers; w++) {
            int ways = 1 + to(mostWays[size]);
            for (int v = 0; v < ways; v++) {
                int n = 1 + to(late > 0 ? 8 : 6);
                both("row", x.row(0, 0, n), m.row(0, 0, n));
                for (int k = 0; k < n; k++) {
                    int p = to(places);
                    both("put", x.put(0, k, p), m.put(0, k, p));
                }
                if (v == 0) {
                    both("walker", x.walker(0, n), m.walker(0, n));
                } else {
                    both("way", x.way(w, 0, n), m.way(w, 0, n));
                }
            }
            if (late > 0 || to(2) == 0) {
                int start = late + to(12);
                both("mend start", x.mend(w, 1, start), m.mend(w, 1, start));
            }
            if (to(2) == 0) {
                int lead = to(61);
                both("mend lead", x.mend(w, 0, lead), m.mend(w, 0, lead));
            }
        }
    }

    private void lawText(String text) {
        for (int i = 0; i < text.length(); i++) {
            both("feed", x.feed(text.charAt(i)), m.feed(text.charAt(i)));
        }
        both("law " + text, x.law(), m.law());
    }

    private int someDay() {
        int day = 0;
        for (int i = 0; i < m.walkers.size(); i++) {
            day += to(m.walkers.get(i).ways.size()) << 2 * i;
        }
        return to(20) == 0 ? near(1024) : day;
    }

    private int someWalker() {
        return near(m.walkers.size());
    }

    private int someMinute() {
        return to(10) == 0 ? near(1000) : to(40);
    }

    private void one(int i) {
        String at = "call " + i + " ";
        int kind = to(45);
        if (kind < 14) {
            change(at, kind);
        } else if (kind < 32) {
            ask(at, kind - 14);
        } else {
            deed(at, kind - 32);
        }
    }

    private void change(String at, int kind) {
        int shelf = near(6);
        int number = someWalker();
        int v = near(62);
        switch (kind) {
            case 0:
                int in = to(4) == 0 ? near(700) : to(3) * 10 + 1 + to(4);
                if (to(10) == 0) {
                    both(at + "walker " + shelf + " " + in, x.walker(shelf, in), m.walker(shelf, in));
                }
                break;
            case 1:
                if (to(8) == 0) {
                    int from = to(4) == 0 ? near(700) : to(3) * 10 + 1 + to(4);
                    both(at + "way " + number + " " + shelf + " " + from, x.way(number, shelf, from), m.way(number, shelf, from));
                }
                break;
            case 2:
            case 3:
                both(at + "mend lead " + number + " " + v, x.mend(number, 0, v), m.mend(number, 0, v));
                break;
            case 4:
                int start = to(3) == 0 ? near(202) : to(15);
                both(at + "mend start", x.mend(number, 1, start), m.mend(number, 1, start));
                break;
            case 5:
                int fall = near(101);
                both(at + "mend fall", x.mend(number, 2, fall), m.mend(number, 2, fall));
                break;
            case 6:
            case 7:
                int pair = to(20) == 0 ? near(100) : to(7) * 10 + to(7);
                int minutes = near(32);
                both(at + "mend minutes " + pair, x.mend(pair, 3, minutes), m.mend(pair, 3, minutes));
                both(at + "of minutes " + pair, x.of(pair, 3), m.of(pair, 3));
                break;
            case 8:
                lawText(LAWS[to(LAWS.length)]);
                break;
            case 9:
                if (to(3) == 0) {
                    lawText(ModelText.drawn(draw));
                }
                break;
            case 10:
            case 11:
                both(at + "undo", x.undo(), m.undo());
                break;
            case 12:
                both(at + "redo", x.redo(), m.redo());
                break;
            default:
                int what = near(4);
                both(at + "mend " + what, x.mend(number, what, v), m.mend(number, what, v));
                break;
        }
    }

    private void ask(String at, int kind) {
        int day = someDay();
        int walker = someWalker();
        int place = near(8);
        int minute = someMinute();
        int two = near(2);
        int three = near(3);
        switch (kind) {
            case 0:
                both(at + "holding -1", x.holding(-1), m.holding(-1));
                break;
            case 1:
                int k = to(3);
                both(at + "holding " + k, x.holding(k), m.holding(k));
                break;
            case 2:
                both(at + "day " + day + " " + two, x.day(day, two), m.day(day, two));
                break;
            case 3:
                both(at + "where", x.where(day, walker, minute), m.where(day, walker, minute));
                break;
            case 4:
                both(at + "sees " + day + " " + place + " " + minute, x.sees(day, place, minute), m.sees(day, place, minute));
                break;
            case 5:
                both(at + "takes " + day + " " + walker, x.takes(day, walker), m.takes(day, walker));
                break;
            case 6:
                both(at + "meet " + day + " " + two, x.meet(day, two), m.meet(day, two));
                break;
            case 7:
                both(at + "sure", x.sure(walker, minute), m.sure(walker, minute));
                break;
            case 8:
                both(at + "follow " + day + " " + three, x.follow(day, three), m.follow(day, three));
                break;
            case 9:
            case 10:
                reading(at);
                break;
            case 11:
                both(at + "cheapest", x.cheapest(walker, place, two), m.cheapest(walker, place, two));
                break;
            case 12:
                int told = near(1 << m.walkers.size());
                both(at + "guard " + told + " " + two, x.guard(told, two), m.guard(told, two));
                break;
            case 13:
                if (to(4) == 0) {
                    both(at + "shoes " + walker + " " + two, x.shoes(walker, two), m.shoes(walker, two));
                }
                break;
            case 14:
                both(at + "feigned", x.feigned(walker, place, two), m.feigned(walker, place, two));
                break;
            case 15:
                int ab = to(3) == 0 ? near(1001000) : to(5) * 1000 + to(20);
                both(at + "flood " + place + " " + ab, x.flood(place, ab, two), m.flood(place, ab, two));
                break;
            case 16:
                int seed = draw.nextInt();
                int n = to(3) == 0 ? near(22) : 1 + to(4);
                both(at + "drawn " + seed + " " + n, x.drawn(seed, n, two), m.drawn(seed, n, two));
                break;
            default:
                int wv = to(5) * 10 + to(5);
                int which = near(9);
                int what = near(9);
                both(at + "place " + wv, x.place(wv, which), m.place(wv, which));
                both(at + "of " + walker + " " + what, x.of(walker, what), m.of(walker, what));
                break;
        }
    }

    /** Tracks as some DAY that HOLDS would leave them, most times, and looks. */
    private void reading(String at) {
        int threes = seed % 2 == 0 ? to(4) / 2 : to(4);
        int day = m.holding(to(2));
        int from = day < 0 ? 0 : day;
        both(at + "row", x.row(1, 1, threes * 3), m.row(1, 1, threes * 3));
        for (int t = 0; t < threes; t++) {
            int place = to(7);
            int minute = to(3) > 0 || m.walkers.isEmpty() ? to(15) : m.of(0, 1);
            int bits = to(8) == 0 ? near(32) : m.sees(from, place, minute);
            int[] three = {place, minute, bits};
            for (int k = 0; k < 3; k++) {
                both(at + "put", x.put(1, t * 3 + k, three[k]), m.put(1, t * 3 + k, three[k]));
            }
        }
        int shelf = to(10) == 0 ? near(6) : 1;
        int what = near(3);
        both(at + "read " + shelf + " " + what, x.read(shelf, what), m.read(shelf, what));
        both(at + "look " + shelf, x.look(shelf), m.look(shelf));
    }

    private void deed(String at, int kind) {
        int shelf = near(6);
        int other = near(6);
        int i = near(12);
        int j = near(12);
        int n = near(12);
        switch (kind) {
            case 0:
                int k = near(2);
                both(at + "live " + k, x.live(k), m.live(k));
                break;
            case 1:
                int walker = someWalker();
                int way = near(4);
                both(at + "step " + walker + " " + way, x.step(walker, way), m.step(walker, way));
                break;
            case 2:
                int led = near(4);
                both(at + "led " + led, x.led(led), m.led(led));
                break;
            case 3:
                both(at + "image", x.image(), m.image());
                break;
            case 4:
                both(at + "back", x.back(), m.back());
                break;
            case 5:
                int kept = near(8);
                both(at + "body " + kept, x.body(kept), m.body(kept));
                break;
            case 6:
                int body = near(m.acts.bodies.size());
                int act = near(4);
                int v = draw.nextInt();
                both(at + "act " + body + " " + act + " " + v, x.act(body, act, v), m.act(body, act, v));
                for (int t = -1; t < 12; t++) {
                    both(at + "trace " + t, x.trace(t), m.trace(t));
                }
                break;
            case 7:
                int held = near(m.acts.bodies.size() + 1) - 1;
                both(at + "keep " + shelf + " " + held, x.keep(shelf, held), m.keep(shelf, held));
                break;
            case 8:
                int sort = near(5);
                int size = to(8) == 0 ? near(62) : to(12);
                both(at + "row " + shelf + " " + sort + " " + size, x.row(shelf, sort, size), m.row(shelf, sort, size));
                break;
            case 9:
                long value = to(2) == 0 ? to(9) : draw.nextLong();
                both(at + "put " + shelf + " " + i, x.put(shelf, i, value), m.put(shelf, i, value));
                both(at + "element " + shelf + " " + i, x.element(shelf, i), m.element(shelf, i));
                break;
            case 10:
                both(at + "shift " + shelf + " " + i + " " + other + " " + j + " " + n,
                    x.shift(shelf, i, other, j, n), m.shift(shelf, i, other, j, n));
                break;
            case 11:
                int under = near(8);
                both(at + "taken " + shelf + " " + under, x.taken(shelf, under), m.taken(shelf, under));
                break;
            default:
                int what = near(6);
                both(at + "count " + what, x.count(what), m.count(what));
                break;
        }
    }
}
