import java.util.ArrayList;
import java.util.HashMap;
import java.util.List;
import java.util.Map;

/** The document again, written slowly and apart from the program, for RandomRunsTest to ask. */
final class Model {
    static final class Walker {
        int lead = 10;
        int start = 0;
        int fall = 10;
        final List<int[]> ways = new ArrayList<>();
    }

    static final class Change {
        int number;
        int what;
        int was;
        int became;
    }

    static final class Flood {
        int place;
        int from;
        int to;
    }

    final int[][] minutes = new int[8][8];
    final List<Walker> walkers = new ArrayList<>();
    final StringBuilder tape = new StringBuilder();
    String law = "n";
    final List<Change> made = new ArrayList<>();
    final List<Change> unmade = new ArrayList<>();
    final int[] deeds = {0, 0, 0, -2};
    int[] image;
    final Object[] shelves = new Object[6];
    final int[] sorts = new int[6];
    final ModelActs acts = new ModelActs();
    int falseWalker = -1;
    int falsePlace = -1;
    Flood flood;
    final Map<String, Integer> given = new HashMap<>();

    Model() {
        for (int[] of : minutes) {
            java.util.Arrays.fill(of, 5);
        }
    }

    // ---- walkers, ways

    int[] wayFromRow(int shelf, int in) {
        if (!(shelves[shelf] instanceof long[]) || sorts[shelf] != 0) {
            return null;
        }
        long[] row = (long[]) shelves[shelf];
        int[] way = new int[in % 10];
        for (int k = 0; k < way.length; k++) {
            if (in / 10 + k >= row.length || row[in / 10 + k] < 0 || row[in / 10 + k] > 7) {
                return null;
            }
            way[k] = (int) row[in / 10 + k];
        }
        return way;
    }

    int refusedWay(int shelf, int in) {
        if (shelf < 0 || shelf > 5 || in < 0 || in % 10 == 0 || in % 10 == 9) {
            return -1;
        }
        if (shelves[shelf] == null) {
            return -11;
        }
        if (!(shelves[shelf] instanceof long[]) || sorts[shelf] != 0) {
            return -12;
        }
        return wayFromRow(shelf, in) == null ? -1 : 0;
    }

    int walker(int shelf, int in) {
        int refused = refusedWay(shelf, in);
        if (refused != 0) {
            return refused;
        }
        if (walkers.size() == 5) {
            return -3;
        }
        Walker come = new Walker();
        come.ways.add(wayFromRow(shelf, in));
        walkers.add(come);
        return walkers.size() - 1;
    }

    int way(int walker, int shelf, int in) {
        if (noWalker(walker)) {
            return -1;
        }
        int refused = refusedWay(shelf, in);
        if (refused != 0) {
            return refused;
        }
        List<int[]> ways = walkers.get(walker).ways;
        if (ways.size() == 4) {
            return -3;
        }
        ways.add(wayFromRow(shelf, in));
        return ways.size() - 1;
    }

    boolean noWalker(int walker) {
        return walker < 0 || walker >= walkers.size();
    }

    int mend(int number, int what, int v) {
        int was = what > 3 ? -1 : of(number, what);
        int[] most = {60, 200, 99, 30};
        if (was == -1 || v < (what == 3 ? 1 : 0) || v > most[what]) {
            return -1;
        }
        if (v != was) {
            Change c = new Change();
            c.number = number;
            c.what = what;
            c.was = was;
            c.became = v;
            become(number, what, v);
            made.add(c);
            unmade.clear();
            if (made.size() > 40) {
                made.remove(0);
            }
        }
        return was;
    }

    void become(int number, int what, int v) {
        if (what == 3) {
            minutes[number / 10][number % 10] = v;
            minutes[number % 10][number / 10] = v;
            return;
        }
        Walker w = walkers.get(number);
        if (what == 0) {
            w.lead = v;
        } else if (what == 1) {
            w.start = v;
        } else {
            w.fall = v;
        }
    }

    int of(int number, int what) {
        if (what == 3) {
            boolean pair = number >= 0 && number / 10 < 8 && number % 10 < 8 && number / 10 != number % 10;
            return pair ? minutes[number / 10][number % 10] : -1;
        }
        if (noWalker(number) || what < 0 || what > 8) {
            return -1;
        }
        Walker w = walkers.get(number);
        switch (what) {
            case 0:
                return w.lead;
            case 1:
                return w.start;
            case 2:
                return w.fall;
            case 4:
                return w.ways.size();
            default:
                return what - 5 < w.ways.size() ? w.ways.get(what - 5).length : -1;
        }
    }

    int place(int wv, int k) {
        if (wv < 0 || k < 0 || noWalker(wv / 10) || wv % 10 >= walkers.get(wv / 10).ways.size()) {
            return -1;
        }
        int[] way = walkers.get(wv / 10).ways.get(wv % 10);
        return k < way.length ? way[k] : -2;
    }

    int feed(int letter) {
        if (letter < 0 || letter > 255) {
            return -1;
        }
        if (tape.length() == 120) {
            return -3;
        }
        tape.append((char) letter);
        return tape.length();
    }

    int law() {
        String text = tape.toString();
        tape.setLength(0);
        int fault = ModelLaw.fault(text);
        if (fault >= 0) {
            return -100 - fault;
        }
        law = text;
        return 1;
    }

    // ---- days

    int wayOf(int day, int walker) {
        int left = day;
        for (int i = 0; i < walker; i++) {
            left /= 4;
        }
        return left % 4;
    }

    boolean noDay(int day) {
        if (day < 0 || day > 1023) {
            return true;
        }
        for (int i = 0; i < 5; i++) {
            int ways = i < walkers.size() ? walkers.get(i).ways.size() : 1;
            if (wayOf(day, i) >= ways) {
                return true;
            }
        }
        return false;
    }

    int[] arrivals(int walker, int way) {
        int[] places = walkers.get(walker).ways.get(way);
        int[] at = new int[places.length];
        at[0] = walkers.get(walker).start;
        for (int k = 1; k < at.length; k++) {
            at[k] = at[k - 1] + (places[k] == places[k - 1] ? 1 : minutes[places[k - 1]][places[k]]);
        }
        return at;
    }

    int isAt(int walker, int way, int minute) {
        int[] at = arrivals(walker, way);
        for (int k = 0; k < at.length; k++) {
            if (at[k] == minute) {
                return walkers.get(walker).ways.get(way)[k];
            }
        }
        return -2;
    }

    boolean tracks(int walker, int way, int place, int minute) {
        int[] at = arrivals(walker, way);
        for (int k = 0; k < at.length; k++) {
            boolean here = walkers.get(walker).ways.get(way)[k] == place;
            if (here && at[k] > minute && at[k] <= minute + walkers.get(walker).lead) {
                return true;
            }
        }
        return false;
    }

    int trackBits(int day, int place, int minute) {
        int bits = 0;
        for (int j = 0; j < walkers.size(); j++) {
            bits += tracks(j, wayOf(day, j), place, minute) ? 1 << j : 0;
        }
        return bits;
    }

    int lawful(int day, int walker) {
        Walker w = walkers.get(walker);
        int place = w.ways.get(0)[0];
        int bits = trackBits(day, place, w.start);
        if (falsePlace == place) {
            bits |= 1 << falseWalker;
        }
        if (flood != null && flood.place == place && w.start >= flood.from && w.start <= flood.to) {
            bits = 0;
        }
        bits &= ~(1 << walker);
        String key = law + " " + bits + " " + walker + " " + w.lead + " " + w.ways.size() + " " + w.start;
        Integer known = given.get(key);
        if (known == null) {
            Map<Character, Integer> names = new HashMap<>();
            names.put('n', Integer.bitCount(bits));
            names.put('s', bits);
            names.put('k', walker);
            names.put('l', w.lead);
            names.put('w', w.ways.size());
            names.put('m', w.start);
            known = Math.floorMod(ModelLaw.given(law, names), w.ways.size());
            given.put(key, known);
        }
        return known;
    }

    boolean holds(int day) {
        for (int i = 0; i < walkers.size(); i++) {
            if (lawful(day, i) != wayOf(day, i)) {
                return false;
            }
        }
        return true;
    }

    List<Integer> allDays() {
        List<Integer> all = new ArrayList<>();
        for (int day = 0; day < 1024; day++) {
            if (!noDay(day)) {
                all.add(day);
            }
        }
        return all;
    }

    List<Integer> held() {
        List<Integer> held = new ArrayList<>();
        for (int day : allDays()) {
            if (holds(day)) {
                held.add(day);
            }
        }
        return held;
    }

    int holding(int k) {
        if (k < -1) {
            return -1;
        }
        List<Integer> held = held();
        return k == -1 ? held.size() : k < held.size() ? held.get(k) : -2;
    }

    int cost(int day) {
        int cost = 0;
        for (int i = 0; i < walkers.size(); i++) {
            cost += lawful(day, i) == wayOf(day, i) ? 0 : walkers.get(i).fall;
        }
        return cost;
    }

    int day(int day, int what) {
        if (noDay(day) || what < 0 || what > 1) {
            return -1;
        }
        return what == 1 ? cost(day) : holds(day) ? 1 : 0;
    }

    boolean noMinute(int minute) {
        return minute < 0 || minute > 999;
    }

    boolean noPlace(int place) {
        return place < 0 || place > 7;
    }

    int where(int day, int walker, int minute) {
        if (noDay(day) || noWalker(walker) || noMinute(minute)) {
            return -1;
        }
        return isAt(walker, wayOf(day, walker), minute);
    }

    int sees(int day, int place, int minute) {
        return noDay(day) || noPlace(place) || noMinute(minute) ? -1 : trackBits(day, place, minute);
    }

    int takes(int day, int walker) {
        return noDay(day) || noWalker(walker) ? -1 : lawful(day, walker);
    }

    /** How often, and when first, by trying each minute. */
    int[] meetings(int day) {
        int[] found = {0, -2};
        for (int minute = 0; minute <= 450; minute++) {
            for (int i = 0; i < walkers.size(); i++) {
                int here = isAt(i, wayOf(day, i), minute);
                for (int j = 0; j < i && here >= 0; j++) {
                    if (isAt(j, wayOf(day, j), minute) == here) {
                        found[0]++;
                        found[1] = found[1] == -2 ? minute : found[1];
                    }
                }
            }
        }
        return found;
    }

    int meet(int day, int what) {
        return noDay(day) || what < 0 || what > 1 ? -1 : meetings(day)[what];
    }

    int sure(int walker, int minute) {
        if (noWalker(walker) || noMinute(minute)) {
            return -1;
        }
        List<Integer> held = held();
        if (held.isEmpty()) {
            return -2;
        }
        java.util.Set<Integer> places = new java.util.HashSet<>();
        for (int day : held) {
            places.add(isAt(walker, wayOf(day, walker), minute));
        }
        int one = places.iterator().next();
        return places.size() == 1 && one >= 0 ? one : -3;
    }

    int next(int day) {
        int next = 0;
        int worth = 1;
        for (int i = 0; i < walkers.size(); i++) {
            next += worth * lawful(day, i);
            worth *= 4;
        }
        return next;
    }

    int follow(int day, int what) {
        if (noDay(day) || what < 0 || what > 2) {
            return -1;
        }
        List<Integer> been = new ArrayList<>();
        int now = day;
        while (!been.contains(now)) {
            been.add(now);
            now = next(now);
        }
        return what == 0 ? been.size() : what == 1 ? been.size() - been.indexOf(now) : now;
    }

    // ---- tracks read

    int refusedReading(int shelf) {
        if (shelves[shelf] == null) {
            return -11;
        }
        if (!(shelves[shelf] instanceof long[]) || sorts[shelf] != 1) {
            return -12;
        }
        long[] row = (long[]) shelves[shelf];
        if (row.length % 3 != 0) {
            return -5;
        }
        long[] most = {7, 999, 31};
        for (int i = 0; i < row.length; i++) {
            if (row[i] < 0 || row[i] > most[i % 3]) {
                return -5;
            }
        }
        return 0;
    }

    List<Integer> fitting(int shelf) {
        long[] row = (long[]) shelves[shelf];
        List<Integer> fit = new ArrayList<>();
        for (int day : held()) {
            boolean fits = true;
            for (int i = 0; i < row.length; i += 3) {
                fits &= trackBits(day, (int) row[i], (int) row[i + 1]) == row[i + 2];
            }
            if (fits) {
                fit.add(day);
            }
        }
        return fit;
    }

    int read(int shelf, int what) {
        if (shelf < 0 || shelf > 5 || what < 0 || what > 2) {
            return -1;
        }
        int refused = refusedReading(shelf);
        if (refused != 0) {
            return refused;
        }
        List<Integer> fit = fitting(shelf);
        if (what == 0) {
            return fit.size();
        }
        if (what == 1) {
            return fit.isEmpty() ? -2 : fit.get(0);
        }
        int same = 0;
        for (int i = 0; i < walkers.size() && !fit.isEmpty(); i++) {
            boolean alike = true;
            for (int day : fit) {
                alike &= wayOf(day, i) == wayOf(fit.get(0), i);
            }
            same += alike ? 1 << i : 0;
        }
        return same;
    }

    int look(int shelf) {
        if (shelf < 0 || shelf > 5) {
            return -1;
        }
        int refused = refusedReading(shelf);
        if (refused != 0) {
            return refused;
        }
        List<Integer> fit = fitting(shelf);
        if (fit.size() < 2) {
            return -2;
        }
        int best = -1;
        int least = Integer.MAX_VALUE;
        for (int minute = 0; minute <= 60; minute++) {
            for (int place = 0; place < 8; place++) {
                Map<Integer, Integer> parts = new HashMap<>();
                int greatest = 0;
                for (int day : fit) {
                    int part = parts.merge(trackBits(day, place, minute), 1, Integer::sum);
                    greatest = Math.max(greatest, part);
                }
                if (greatest < least) {
                    least = greatest;
                    best = minute * 10 + place;
                }
            }
        }
        return best;
    }

    int cheapest(int walker, int place, int what) {
        if (noWalker(walker) || noPlace(place) || what < 0 || what > 1) {
            return -1;
        }
        int[] best = {-2, -2};
        for (int day : allDays()) {
            boolean never = true;
            for (int p : walkers.get(walker).ways.get(wayOf(day, walker))) {
                never &= p != place;
            }
            if (never && (best[0] < 0 || cost(day) < best[0])) {
                best[0] = cost(day);
                best[1] = day;
            }
        }
        return best[what];
    }

    int guard(int told, int what) {
        if (told < 0 || told > (1 << walkers.size()) - 1 || what < 0 || what > 1) {
            return -1;
        }
        List<Integer> held = held();
        if (held.isEmpty()) {
            return -2;
        }
        int[][] days = new int[401][8];
        for (int day : held) {
            boolean[][] guarded = new boolean[401][8];
            for (int i = 0; i < walkers.size(); i++) {
                int[] at = arrivals(i, wayOf(day, i));
                for (int k = 0; k < at.length && (told >> i) % 2 == 1; k++) {
                    if (at[k] <= 400) {
                        guarded[at[k]][walkers.get(i).ways.get(wayOf(day, i))[k]] = true;
                    }
                }
            }
            for (int c = 0; c < 401 * 8; c++) {
                days[c / 8][c % 8] += guarded[c / 8][c % 8] ? 1 : 0;
            }
        }
        int best = 0;
        for (int c = 0; c < 401 * 8; c++) {
            best = days[c / 8][c % 8] > days[best / 8][best % 8] ? c : best;
        }
        return what == 0 ? days[best / 8][best % 8] : best / 8 * 10 + best % 8;
    }

    int shoes(int walker, int what) {
        if (noWalker(walker) || what < 0 || what > 1) {
            return -1;
        }
        int own = walkers.get(walker).lead;
        int[] best = {-2, -2};
        for (int lead = 60; lead >= 0; lead--) {
            walkers.get(walker).lead = lead;
            int days = held().size();
            if (days > 0 && (best[1] < 0 || days <= best[1])) {
                best[0] = lead;
                best[1] = days;
            }
        }
        walkers.get(walker).lead = own;
        return best[what];
    }

    int feigned(int walker, int place, int what) {
        if (noWalker(walker) || noPlace(place) || what < 0 || what > 1) {
            return -1;
        }
        falseWalker = walker;
        falsePlace = place;
        int answer = what == 0 ? held().size() : held().isEmpty() ? -2 : held().get(0);
        falsePlace = -1;
        return answer;
    }

    int flood(int place, int ab, int what) {
        if (noPlace(place) || ab < 0 || ab > 999999 || ab / 1000 > ab % 1000 || what < 0 || what > 1) {
            return -1;
        }
        flood = new Flood();
        flood.place = place;
        flood.from = ab / 1000;
        flood.to = ab % 1000;
        int answer = what == 0 ? held().size() : held().isEmpty() ? -2 : held().get(0);
        flood = null;
        return answer;
    }

    int drawn(int seed, int n, int what) {
        if (n < 1 || n > 20 || what < 0 || what > 1) {
            return -1;
        }
        int[] own = new int[5];
        for (int i = 0; i < walkers.size(); i++) {
            own[i] = walkers.get(i).lead;
        }
        int[] sums = {0, 0};
        int z = seed;
        for (int time = 0; time < n; time++) {
            for (Walker w : walkers) {
                z = z * 1103515245 + 12345;
                w.lead = (z >>> 8) % 61;
            }
            int days = held().size();
            sums[0] += days;
            sums[1] += days == 0 ? 1 : 0;
        }
        for (int i = 0; i < walkers.size(); i++) {
            walkers.get(i).lead = own[i];
        }
        return sums[what];
    }

    // ---- in deed

    void lived(int day, int cost) {
        deeds[0] += 1;
        deeds[1] += meetings(day)[0];
        deeds[2] += cost;
        deeds[3] = day;
    }

    int live(int k) {
        if (k < 0) {
            return -1;
        }
        List<Integer> held = held();
        if (k >= held.size()) {
            return -2;
        }
        lived(held.get(k), 0);
        return meetings(held.get(k))[0];
    }

    int step(int walker, int way) {
        if (noWalker(walker) || way < 0 || way >= walkers.get(walker).ways.size()) {
            return -1;
        }
        if (noDay(deeds[3])) {
            return -5;
        }
        int worth = 1;
        for (int i = 0; i < walker; i++) {
            worth *= 4;
        }
        int lawful = lawful(deeds[3], walker);
        int cost = lawful == way ? 0 : walkers.get(walker).fall;
        lived(next(deeds[3]) + (way - lawful) * worth, cost);
        return cost;
    }

    int led(int what) {
        return what < 0 || what > 3 ? -1 : deeds[what];
    }

    int image() {
        image = deeds.clone();
        return deeds[0];
    }

    int back() {
        if (image == null) {
            return -5;
        }
        System.arraycopy(image, 0, deeds, 0, 4);
        return deeds[0];
    }

    int undo() {
        if (made.isEmpty()) {
            return -5;
        }
        Change c = made.remove(made.size() - 1);
        become(c.number, c.what, c.was);
        unmade.add(c);
        return made.size();
    }

    int redo() {
        if (unmade.isEmpty()) {
            return -5;
        }
        Change c = unmade.remove(unmade.size() - 1);
        become(c.number, c.what, c.became);
        made.add(c);
        return unmade.size();
    }

    // ---- acts, shelves

    int body(int kind) {
        return acts.body(kind);
    }

    int act(int body, int act, int x) {
        return acts.act(body, act, x);
    }

    int trace(int i) {
        return i >= 0 && i < 24 && i < acts.ran.size() ? acts.ran.get(i) : -1;
    }

    int keep(int shelf, int body) {
        if (shelf < 0 || shelf > 5 || body < -1 || body >= acts.bodies.size()) {
            return -1;
        }
        shelves[shelf] = body == -1 ? null : acts.bodies.get(body);
        return 1;
    }

    int row(int shelf, int sort, int n) {
        if (shelf < 0 || shelf > 5 || sort < 0 || sort > 4 || n > 60) {
            return -1;
        }
        if (n < 0) {
            return -14;
        }
        shelves[shelf] = new long[n];
        sorts[shelf] = sort;
        return 1;
    }

    int refusedElement(int shelf, int i) {
        if (shelf < 0 || shelf > 5) {
            return -1;
        }
        if (shelves[shelf] == null) {
            return -11;
        }
        if (!(shelves[shelf] instanceof long[])) {
            return -12;
        }
        return i < 0 || i >= ((long[]) shelves[shelf]).length ? -13 : 0;
    }

    int put(int shelf, int i, long v) {
        int refused = refusedElement(shelf, i);
        if (refused != 0) {
            return refused;
        }
        int[] shifts = {56, 48, 32, 0};
        long kept = sorts[shelf] == 4 ? (v == 0 ? 0 : 1) : v << shifts[sorts[shelf]] >> shifts[sorts[shelf]];
        ((long[]) shelves[shelf])[i] = kept;
        return 1;
    }

    long element(int shelf, int i) {
        return refusedElement(shelf, i) != 0 ? Long.MIN_VALUE : ((long[]) shelves[shelf])[i];
    }

    int shift(int shelf, int i, int other, int j, int n) {
        if (shelf < 0 || shelf > 5 || other < 0 || other > 5) {
            return -1;
        }
        if (shelves[shelf] == null || shelves[other] == null) {
            return -11;
        }
        if (!(shelves[shelf] instanceof long[]) || !(shelves[other] instanceof long[]) || sorts[shelf] != sorts[other]) {
            return -12;
        }
        long[] from = ((long[]) shelves[shelf]).clone();
        long[] to = (long[]) shelves[other];
        if (n < 0 || i < 0 || j < 0 || (long) i + n > from.length || (long) j + n > to.length) {
            return -13;
        }
        for (int k = 0; k < n; k++) {
            to[j + k] = from[i + k];
        }
        return n;
    }

    int taken(int shelf, int k) {
        if (shelf < 0 || shelf > 5 || k < 0 || k > 7) {
            return -1;
        }
        if (shelves[shelf] == null) {
            return -11;
        }
        return acts.taken(shelves[shelf], k);
    }

    int count(int what) {
        int ways = 0;
        for (Walker w : walkers) {
            ways += w.ways.size();
        }
        int[] counts = {walkers.size(), ways, tape.length(), made.size(), acts.bodies.size(), acts.ran.size()};
        return what < 0 || what > 5 ? -1 : counts[what];
    }
}
