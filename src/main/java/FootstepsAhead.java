import java.util.Arrays;

/** Walkers whose tracks are there before them, and the days that hold together by a law told as a text. */
public final class FootstepsAhead {
    public static final int BAD = -1, NOT = -2, FULL = -3, STATE = -5, VOID = -2000000000;

    private static final int NOTHING = -11, OTHER_KIND = -12, NO_PLACE = -13, BELOW_ZERO = -14;
    private static final int UNSURE = -3;
    private static final int PLACES = 8, WALKERS = 5, WAYS_EACH = 4, WAYS = 20, DAYS = 1024;
    private static final int LAST_MINUTE = 999;
    private static final int SHELVES = 6;
    private static final int LEAD = 0, START = 1, FALL = 2, MINUTES = 3;
    private static final int MOST_LEAD = 60;
    /** Sets of WALKERS whose TRACKS are seen. */
    private static final int SIGHTS = 32;

    private final World world;
    private final Law lawInForce;
    private final Days days;
    private final Readings readings;
    private final Trials trials;
    private final Deeds deeds;
    private final Changes changes;
    private final Bodies bodies;
    private final Shelf[] shelves;

    public FootstepsAhead() {
        World newWorld = new World();
        Law newLaw = new Law();
        Days newDays = new Days(newWorld, newLaw);
        world = newWorld;
        lawInForce = newLaw;
        days = newDays;
        readings = new Readings(newWorld, newDays);
        trials = new Trials(newWorld, newDays);
        deeds = new Deeds();
        changes = new Changes();
        bodies = new Bodies();
        Shelf[] newShelves = new Shelf[SHELVES];
        for (int i = 0; i < SHELVES; i++) {
            newShelves[i] = new Shelf();
        }
        shelves = newShelves;
    }

    // ---- walkers, ways (in: 10 times the place in the ROW, and how many PLACES)

    public int walker(int shelf, int in) {
        int refusal = wayRefusal(shelf, in);
        if (refusal != 0) {
            return refusal;
        }
        if (world.walkers >= WALKERS) {
            return FULL;
        }
        int number = world.addWalker();
        world.addWay(number, shelves[shelf].elements, in / 10, in % 10);
        days.spoil();
        return number;
    }

    public int way(int walker, int shelf, int in) {
        if (!world.isWalker(walker)) {
            return BAD;
        }
        int refusal = wayRefusal(shelf, in);
        if (refusal != 0) {
            return refusal;
        }
        if (world.ways[walker] >= WAYS_EACH) {
            return FULL;
        }
        int which = world.addWay(walker, shelves[shelf].elements, in / 10, in % 10);
        days.spoil();
        return which;
    }

    /** Why there is no WAY FROM A ROW on that SHELF; 0: there is one. */
    private int wayRefusal(int shelf, int in) {
        if (!isShelf(shelf) || in < 0 || in % 10 < 1 || in % 10 > PLACES) {
            return BAD;
        }
        int refusal = shelves[shelf].refusalOfSort(Shelf.BYTES);
        if (refusal != 0) {
            return refusal;
        }
        return shelves[shelf].tellsPlaces(in / 10, in % 10) ? 0 : BAD;
    }

    public int mend(int number, int what, int v) {
        if (!world.isTold(number, what) || !World.mayBecome(what, v)) {
            return BAD;
        }
        int was = world.told(number, what);
        if (was != v) {
            changes.note(what, number, was, v);
            world.tell(number, what, v);
            days.spoil();
        }
        return was;
    }

    public int of(int number, int what) {
        if (what < 4) {
            return world.isTold(number, what) ? world.told(number, what) : BAD;
        }
        if (!world.isWalker(number)) {
            return BAD;
        }
        if (what == 4) {
            return world.ways[number];
        }
        return world.isWay(number, what - 5) ? world.lengths[World.wayIndex(number, what - 5)] : BAD;
    }

    public int place(int wv, int k) {
        if (wv < 0 || k < 0 || !world.isWay(wv / 10, wv % 10)) {
            return BAD;
        }
        int way = World.wayIndex(wv / 10, wv % 10);
        return k < world.lengths[way] ? world.places[way][k] : NOT;
    }

    public int feed(int letter) {
        if (letter < 0 || letter > 255) {
            return BAD;
        }
        return lawInForce.write(letter) ? lawInForce.fed : FULL;
    }

    public int law() {
        int fault = lawInForce.adopt();
        if (fault >= 0) {
            return -100 - fault;
        }
        days.spoil();
        return 1;
    }

    // ---- days (0 .. 1023, of WAYS that are there)

    public int holding(int k) {
        if (k < -1) {
            return BAD;
        }
        days.settle();
        return k == -1 ? days.holds : days.heldDay(k);
    }

    public int day(int day, int what) {
        if (!world.isDay(day) || !isZeroOrOne(what)) {
            return BAD;
        }
        days.settle();
        int ways = world.waysOn(day);
        if (what == 1) {
            return days.costOf(day, ways);
        }
        return days.isHeld(day, ways) ? 1 : 0;
    }

    public int where(int day, int walker, int minute) {
        if (!world.isDay(day) || !world.isWalker(walker) || !isMinute(minute)) {
            return BAD;
        }
        return world.placeAt(World.wayOn(day, walker), minute);
    }

    public int sees(int day, int place, int minute) {
        if (!world.isDay(day) || !isPlace(place) || !isMinute(minute)) {
            return BAD;
        }
        return World.walkersOf(world.tracks(place, minute) & world.waysOn(day));
    }

    public int takes(int day, int walker) {
        if (!world.isDay(day) || !world.isWalker(walker)) {
            return BAD;
        }
        days.settle();
        return days.lawful(walker, world.waysOn(day));
    }

    public int meet(int day, int what) {
        if (!world.isDay(day) || !isZeroOrOne(what)) {
            return BAD;
        }
        return what == 0 ? world.meetings(day) : world.firstMeeting(day);
    }

    public int sure(int walker, int minute) {
        if (!world.isWalker(walker) || !isMinute(minute)) {
            return BAD;
        }
        days.settle();
        return readings.surePlace(walker, minute);
    }

    public int follow(int day, int what) {
        if (!world.isDay(day) || what < 0 || what > 2) {
            return BAD;
        }
        days.settle();
        return days.followed(day, what);
    }

    // ---- tracks read, days at a cost, guards, shoes

    public int read(int shelf, int what) {
        if (!isShelf(shelf) || what < 0 || what > 2) {
            return BAD;
        }
        days.settle();
        int refusal = readings.narrowBy(shelves[shelf]);
        if (refusal != 0) {
            return refusal;
        }
        if (what == 0) {
            return readings.fitting;
        }
        return what == 1 ? readings.firstFitting() : readings.alikeWalkers();
    }

    public int look(int shelf) {
        if (!isShelf(shelf)) {
            return BAD;
        }
        days.settle();
        int refusal = readings.narrowBy(shelves[shelf]);
        if (refusal != 0) {
            return refusal;
        }
        return readings.fitting < 2 ? NOT : readings.bestLook();
    }

    public int cheapest(int walker, int place, int what) {
        if (!world.isWalker(walker) || !isPlace(place) || !isZeroOrOne(what)) {
            return BAD;
        }
        days.settle();
        return readings.cheapestWithout(walker, place, what);
    }

    public int guard(int walkers, int what) {
        if (walkers < 0 || walkers >= 1 << world.walkers || !isZeroOrOne(what)) {
            return BAD;
        }
        days.settle();
        return readings.bestGuard(walkers, what);
    }

    public int shoes(int walker, int what) {
        if (!world.isWalker(walker) || !isZeroOrOne(what)) {
            return BAD;
        }
        days.settle();
        return trials.bestLead(walker, what);
    }

    public int feigned(int walker, int place, int what) {
        if (!world.isWalker(walker) || !isPlace(place) || !isZeroOrOne(what)) {
            return BAD;
        }
        days.settle();
        return trials.withFalseTracks(walker, place, what);
    }

    public int flood(int place, int ab, int what) {
        if (!isPlace(place) || ab < 0 || !isMinute(ab / 1000) || ab / 1000 > ab % 1000 || !isZeroOrOne(what)) {
            return BAD;
        }
        days.settle();
        return trials.withFlood(place, ab / 1000, ab % 1000, what);
    }

    public int drawn(int seed, int n, int what) {
        if (n < 1 || n > 20 || !isZeroOrOne(what)) {
            return BAD;
        }
        days.settle();
        return trials.withDrawnLeads(seed, n, what);
    }

    // ---- in deed

    public int live(int k) {
        if (k < 0) {
            return BAD;
        }
        days.settle();
        int day = days.heldDay(k);
        if (day < 0) {
            return NOT;
        }
        int met = world.meetings(day);
        deeds.lived(day, met, 0);
        return met;
    }

    public int step(int walker, int way) {
        if (!world.isWay(walker, way)) {
            return BAD;
        }
        int latest = deeds.told(Deeds.LATEST);
        if (!world.isDay(latest)) {
            return STATE;
        }
        days.settle();
        int lawful = days.lawful(walker, world.waysOn(latest));
        int cost = way == lawful ? 0 : world.told(walker, FALL);
        int day = World.withWay(days.nextDay(latest), walker, way);
        deeds.lived(day, world.meetings(day), cost);
        return cost;
    }

    public int led(int what) {
        return what < 0 || what > Deeds.LATEST ? BAD : deeds.told(what);
    }

    public int image() {
        deeds.keepImage();
        return deeds.told(Deeds.LIVED);
    }

    public int back() {
        return deeds.layBack() ? deeds.told(Deeds.LIVED) : STATE;
    }

    public int undo() {
        if (!changes.unmake(world)) {
            return STATE;
        }
        days.spoil();
        return changes.made;
    }

    public int redo() {
        if (!changes.remake(world)) {
            return STATE;
        }
        days.spoil();
        return changes.unmade();
    }

    // ---- acts, shelves

    public int body(int kind) {
        if (kind < 0 || kind >= Bodies.KINDS) {
            return BAD;
        }
        int number = bodies.add(kind);
        return number < 0 ? FULL : number;
    }

    public int act(int body, int act, int x) {
        return bodies.perform(body, act, x);
    }

    public int trace(int i) {
        return bodies.ranAt(i);
    }

    public int keep(int shelf, int body) {
        if (!isShelf(shelf) || (body != -1 && !bodies.isThere(body))) {
            return BAD;
        }
        if (body == -1) {
            shelves[shelf].clear();
        } else {
            shelves[shelf].holdBody(bodies.kindOf(body));
        }
        return 1;
    }

    public int row(int shelf, int sort, int n) {
        if (!isShelf(shelf) || sort < Shelf.BYTES || sort > Shelf.BOOLEANS || n > Shelf.MOST) {
            return BAD;
        }
        if (n < 0) {
            return BELOW_ZERO;
        }
        shelves[shelf].holdRow(sort, n);
        return 1;
    }

    public int put(int shelf, int i, long v) {
        int refusal = elementRefusal(shelf, i);
        if (refusal != 0) {
            return refusal;
        }
        shelves[shelf].set(i, v);
        return 1;
    }

    public long element(int shelf, int i) {
        return elementRefusal(shelf, i) != 0 ? Long.MIN_VALUE : shelves[shelf].elements[i];
    }

    /** Why a SHELF's ROW has no element i; 0: it has one. */
    private int elementRefusal(int shelf, int i) {
        if (!isShelf(shelf)) {
            return BAD;
        }
        int refusal = shelves[shelf].refusalOfRow();
        if (refusal != 0) {
            return refusal;
        }
        return shelves[shelf].hasPlaces(i, 1) ? 0 : NO_PLACE;
    }

    public int shift(int shelf, int i, int other, int j, int n) {
        if (!isShelf(shelf) || !isShelf(other)) {
            return BAD;
        }
        Shelf from = shelves[shelf];
        Shelf to = shelves[other];
        if (from.sort == Shelf.EMPTY || to.sort == Shelf.EMPTY) {
            return NOTHING;
        }
        if (from.sort == Shelf.BODY || from.sort != to.sort) {
            return OTHER_KIND;
        }
        if (!from.hasPlaces(i, n) || !to.hasPlaces(j, n)) {
            return NO_PLACE;
        }
        System.arraycopy(from.elements, i, to.elements, j, n);
        return n;
    }

    public int taken(int shelf, int k) {
        if (!isShelf(shelf) || k < 0 || k >= Bodies.KINDS) {
            return BAD;
        }
        Shelf held = shelves[shelf];
        if (held.sort == Shelf.EMPTY) {
            return NOTHING;
        }
        return held.sort == Shelf.BODY && Bodies.isUnder(held.kind, k) ? held.kind : OTHER_KIND;
    }

    public int count(int what) {
        switch (what) {
            case 0:
                return world.walkers;
            case 1:
                return world.waysOfAll();
            case 2:
                return lawInForce.fed;
            case 3:
                return changes.made;
            case 4:
                return bodies.kept;
            case 5:
                return bodies.began;
            default:
                return BAD;
        }
    }

    private static boolean isShelf(int shelf) {
        return shelf >= 0 && shelf < SHELVES;
    }

    private static boolean isPlace(int place) {
        return place >= 0 && place < PLACES;
    }

    private static boolean isMinute(int minute) {
        return minute >= 0 && minute <= LAST_MINUTE;
    }

    private static boolean isZeroOrOne(int what) {
        return what == 0 || what == 1;
    }

    /**
     * PLACES, WALKERS and their WAYS. A way has an index: WALKER times 4, and the WAY;
     * a set of ways is an int with the bits of their indexes.
     */
    private static final class World {
        /** Of LEAD, START, FALL and MINUTES. */
        private static final int[] LEAST = {0, 0, 0, 1};
        private static final int[] MOST = {60, 200, 99, 30};
        private static final int OWN_WAYS = 15;

        int walkers;
        /** LEAD, START and FALL of each WALKER. */
        private final int[][] ofWalkers = new int[3][WALKERS];
        private final int[][] minutes = new int[PLACES][PLACES];
        final int[] ways = new int[WALKERS];
        final int[] lengths = new int[WAYS];
        final int[][] places = new int[WAYS][PLACES];
        /** The minute in which each PLACE of a way is come to. */
        final int[][] comes = new int[WAYS][PLACES];

        World() {
            for (int from = 0; from < PLACES; from++) {
                Arrays.fill(minutes[from], 5);
            }
        }

        static int wayIndex(int walker, int way) {
            return walker * WAYS_EACH + way;
        }

        /** The index of the way that a WALKER takes on a DAY. */
        static int wayOn(int day, int walker) {
            return wayIndex(walker, choice(day, walker));
        }

        static int choice(int day, int walker) {
            return day >> 2 * walker & 3;
        }

        static int withWay(int day, int walker, int way) {
            return day & ~(3 << 2 * walker) | way << 2 * walker;
        }

        static int allWaysOf(int walker) {
            return OWN_WAYS << WAYS_EACH * walker;
        }

        /** Bits of the WALKERS that have one of these ways. */
        static int walkersOf(int someWays) {
            int any = someWays | someWays >> 1;
            any = any | any >> 2;
            return any & 1 | any >> 3 & 2 | any >> 6 & 4 | any >> 9 & 8 | any >> 12 & 16;
        }

        static boolean mayBecome(int what, int v) {
            return what >= LEAD && what <= MINUTES && v >= LEAST[what] && v <= MOST[what];
        }

        boolean isWalker(int walker) {
            return walker >= 0 && walker < walkers;
        }

        boolean isWay(int walker, int way) {
            return isWalker(walker) && way >= 0 && way < ways[walker];
        }

        boolean isDay(int day) {
            if (day < 0 || day >= DAYS) {
                return false;
            }
            for (int i = 0; i < WALKERS; i++) {
                int chosen = choice(day, i);
                if (chosen != 0 && chosen >= ways[i]) {
                    return false;
                }
            }
            return true;
        }

        boolean isTold(int number, int what) {
            if (what == MINUTES) {
                return number >= 0 && isPlace(number / 10) && isPlace(number % 10) && number / 10 != number % 10;
            }
            return what >= LEAD && what <= FALL && isWalker(number);
        }

        /** What is told by isTold(). */
        int told(int number, int what) {
            return what == MINUTES ? minutes[number / 10][number % 10] : ofWalkers[what][number];
        }

        void tell(int number, int what, int v) {
            if (what == MINUTES) {
                minutes[number / 10][number % 10] = v;
                minutes[number % 10][number / 10] = v;
            } else {
                ofWalkers[what][number] = v;
            }
            if (what == MINUTES || what == START) {
                reckonAll();
            }
        }

        int lead(int walker) {
            return ofWalkers[LEAD][walker];
        }

        /** For shoes that are only tried on. */
        void tryLead(int walker, int lead) {
            ofWalkers[LEAD][walker] = lead;
        }

        int start(int walker) {
            return ofWalkers[START][walker];
        }

        /** Asked for only while there are fewer than five. */
        int addWalker() {
            int number = walkers;
            ofWalkers[LEAD][number] = 10;
            ofWalkers[START][number] = 0;
            ofWalkers[FALL][number] = 10;
            walkers++;
            return number;
        }

        /** Asked for only while the walker has fewer than four; the row tells n PLACES from i on. */
        int addWay(int walker, long[] row, int i, int n) {
            int which = ways[walker];
            int way = wayIndex(walker, which);
            for (int k = 0; k < n; k++) {
                places[way][k] = (int) row[i + k];
            }
            lengths[way] = n;
            ways[walker]++;
            reckon(way);
            return which;
        }

        private void reckonAll() {
            for (int way = 0; way < WAYS; way++) {
                reckon(way);
            }
        }

        private void reckon(int way) {
            int minute = start(way / WAYS_EACH);
            for (int k = 0; k < lengths[way]; k++) {
                if (k > 0) {
                    minute += minutesBetween(places[way][k - 1], places[way][k]);
                }
                comes[way][k] = minute;
            }
        }

        private int minutesBetween(int from, int to) {
            return from == to ? 1 : minutes[from][to];
        }

        /** The ways that are taken on a DAY. */
        int waysOn(int day) {
            int taken = 0;
            for (int i = 0; i < walkers; i++) {
                taken |= 1 << wayOn(day, i);
            }
            return taken;
        }

        int waysOfAll() {
            int all = 0;
            for (int i = 0; i < walkers; i++) {
                all += ways[i];
            }
            return all;
        }

        int placeAt(int way, int minute) {
            for (int k = 0; k < lengths[way]; k++) {
                if (comes[way][k] == minute) {
                    return places[way][k];
                }
            }
            return NOT;
        }

        boolean goesBy(int way, int place) {
            for (int k = 0; k < lengths[way]; k++) {
                if (places[way][k] == place) {
                    return true;
                }
            }
            return false;
        }

        /** The ways whose TRACKS are in a PLACE in a minute. */
        int tracks(int place, int minute) {
            int found = 0;
            for (int way = 0; way < walkers * WAYS_EACH; way++) {
                if (leavesTracks(way, place, minute)) {
                    found |= 1 << way;
                }
            }
            return found;
        }

        private boolean leavesTracks(int way, int place, int minute) {
            int lead = lead(way / WAYS_EACH);
            for (int k = 0; k < lengths[way]; k++) {
                int ahead = comes[way][k] - minute;
                if (places[way][k] == place && ahead >= 1 && ahead <= lead) {
                    return true;
                }
            }
            return false;
        }

        int meetings(int day) {
            int met = 0;
            for (int i = 0; i < walkers; i++) {
                for (int j = i + 1; j < walkers; j++) {
                    met += meetingsOfTwo(wayOn(day, i), wayOn(day, j));
                }
            }
            return met;
        }

        private int meetingsOfTwo(int way, int other) {
            int met = 0;
            for (int k = 0; k < lengths[way]; k++) {
                if (placeAt(other, comes[way][k]) == places[way][k]) {
                    met++;
                }
            }
            return met;
        }

        int firstMeeting(int day) {
            int first = NOT;
            for (int i = 0; i < walkers; i++) {
                for (int j = i + 1; j < walkers; j++) {
                    int minute = firstMeetingOfTwo(wayOn(day, i), wayOn(day, j));
                    if (minute != NOT && (first == NOT || minute < first)) {
                        first = minute;
                    }
                }
            }
            return first;
        }

        private int firstMeetingOfTwo(int way, int other) {
            for (int k = 0; k < lengths[way]; k++) {
                if (placeAt(other, comes[way][k]) == places[way][k]) {
                    return comes[way][k];
                }
            }
            return NOT;
        }
    }

    /** THE TAPE, and THE LAW as code in which each sign stands behind what it joins. */
    private static final class Law {
        private static final int TAPE = 120;
        private static final int MOST_OPEN = 6;
        /** Codes below are numbers; from here on they are signs and names. */
        private static final int SIGN = 10000;
        private static final int ALL_DIGITS = 4;
        private static final int COMPARING = 2, OPERAND = 5;
        /** Ahead of an O a - is another sign than between two. */
        private static final int NEGATE = '~';
        private static final int END_OF_TAPE = -1;

        int fed;
        private final int[] tape = new int[TAPE];
        private int at;
        private final int[] draft = new int[TAPE + 1];
        private int drafted;
        private final int[] code = new int[TAPE + 1];
        private int coded;
        private final int[] stack = new int[TAPE + 1];
        private int height;

        Law() {
            code[0] = SIGN + 'n';
            code[1] = SIGN + ';';
            coded = 2;
        }

        boolean write(int letter) {
            if (fed >= TAPE) {
                return false;
            }
            tape[fed] = letter;
            fed++;
            return true;
        }

        /** THE TAPE becomes THE LAW: -1; else the FAULT. THE TAPE is empty behind both. */
        int adopt() {
            at = 0;
            drafted = 0;
            boolean sound = text();
            fed = 0;
            if (!sound) {
                return at;
            }
            System.arraycopy(draft, 0, code, 0, drafted);
            coded = drafted;
            return -1;
        }

        // Each of these reads on from 'at' and leaves it, where it fails, on the FAULT.

        private boolean text() {
            for (int lines = 0; lines < TAPE; lines++) {
                if (!line()) {
                    return false;
                }
                if (at == fed) {
                    return true;
                }
                if (next() != ';') {
                    return false;
                }
                at++;
            }
            return false;
        }

        private boolean line() {
            if (!chain(0, 0)) {
                return false;
            }
            if (next() == '?') {
                at++;
                emit(SIGN + '?');
                if (!chain(0, 0)) {
                    return false;
                }
            }
            emit(SIGN + ';');
            return true;
        }

        /** Parts joined by the signs of one rank, E to P; the last rank is an O. */
        private boolean chain(int rank, int open) {
            if (rank >= OPERAND) {
                return operand(open);
            }
            if (!chain(rank + 1, open)) {
                return false;
            }
            int most = rank == COMPARING ? 1 : TAPE;
            for (int joined = 0; joined < most && rankOf(next()) == rank; joined++) {
                int sign = next();
                at++;
                if (!chain(rank + 1, open)) {
                    return false;
                }
                emit(SIGN + sign);
            }
            return true;
        }

        private static int rankOf(int sign) {
            switch (sign) {
                case '|':
                    return 0;
                case '&':
                    return 1;
                case '<':
                case '=':
                case '>':
                    return COMPARING;
                case '+':
                case '-':
                    return 3;
                case '*':
                case '/':
                case '%':
                    return 4;
                default:
                    return -1;
            }
        }

        private boolean operand(int open) {
            int letter = next();
            if (isDigit(letter)) {
                number();
                return true;
            }
            if (isName(letter)) {
                at++;
                emit(SIGN + letter);
                return true;
            }
            if ((letter != '(' && letter != '!' && letter != '-') || open >= MOST_OPEN) {
                return false;
            }
            at++;
            return letter == '(' ? bracketed(open + 1) : prefixed(letter, open + 1);
        }

        private boolean bracketed(int open) {
            if (!chain(0, open) || next() != ')') {
                return false;
            }
            at++;
            return true;
        }

        private boolean prefixed(int sign, int open) {
            if (!operand(open)) {
                return false;
            }
            emit(SIGN + (sign == '-' ? NEGATE : sign));
            return true;
        }

        private void number() {
            int value = 0;
            for (int digits = 0; digits < ALL_DIGITS && isDigit(next()); digits++) {
                value = value * 10 + next() - '0';
                at++;
            }
            emit(value);
        }

        private static boolean isDigit(int letter) {
            return letter >= '0' && letter <= '9';
        }

        private static boolean isName(int letter) {
            return letter == 'n' || letter == 's' || letter == 'k' || letter == 'l' || letter == 'w' || letter == 'm';
        }

        private int next() {
            return at < fed && at < TAPE ? tape[at] : END_OF_TAPE;
        }

        private void emit(int part) {
            if (drafted < draft.length) {
                draft[drafted] = part;
                drafted++;
            }
        }

        boolean namesLead() {
            for (int i = 0; i < coded; i++) {
                if (code[i] == SIGN + 'l') {
                    return true;
                }
            }
            return false;
        }

        /** What THE LAW gives by the NAMES s, k, l, w and m. */
        int gives(int s, int k, int l, int w, int m) {
            int n = Integer.bitCount(s);
            height = 0;
            for (int i = 0; i < coded; i++) {
                int part = code[i] - SIGN;
                if (part == ';') {
                    return pop();
                }
                if (part == '?') {
                    i = pop() == 0 ? endOfLine(i) : i;
                } else if (part < 0) {
                    push(code[i]);
                } else if (isName(part)) {
                    push(named(part, n, s, k, l, w, m));
                } else if (part == '!' || part == NEGATE) {
                    push(prefixing(part, pop()));
                } else {
                    int right = pop();
                    push(joining(part, pop(), right));
                }
            }
            return 0;
        }

        private int endOfLine(int from) {
            for (int i = from; i < coded; i++) {
                if (code[i] == SIGN + ';') {
                    return i;
                }
            }
            return coded;
        }

        private static int named(int name, int n, int s, int k, int l, int w, int m) {
            switch (name) {
                case 's':
                    return s;
                case 'k':
                    return k;
                case 'l':
                    return l;
                case 'w':
                    return w;
                case 'm':
                    return m;
                default:
                    return n;
            }
        }

        private static int prefixing(int sign, int value) {
            if (sign == NEGATE) {
                return -value;
            }
            return value == 0 ? 1 : 0;
        }

        private static int joining(int sign, int left, int right) {
            switch (sign) {
                case '|':
                    return left != 0 || right != 0 ? 1 : 0;
                case '&':
                    return left != 0 && right != 0 ? 1 : 0;
                case '<':
                    return left < right ? 1 : 0;
                case '=':
                    return left == right ? 1 : 0;
                case '>':
                    return left > right ? 1 : 0;
                case '+':
                    return left + right;
                case '-':
                    return left - right;
                case '*':
                    return left * right;
                case '/':
                    return right == 0 ? 0 : left / right;
                default:
                    return right == 0 ? 0 : left % right;
            }
        }

        private void push(int value) {
            if (height < stack.length) {
                stack[height] = value;
                height++;
            }
        }

        private int pop() {
            if (height <= 0) {
                return 0;
            }
            height--;
            return stack[height];
        }
    }

    /** Which WAY each takes by a DAY, and which DAYS HOLD; reckoned anew only behind a change. */
    private static final class Days {
        private final World world;
        private final Law law;
        private boolean stale = true;
        /** All DAYS by number, and the ways of each. */
        final int[] numbers = new int[DAYS];
        final int[] waysTaken = new int[DAYS];
        int size;
        /** Of each WALKER the others' ways whose TRACKS it would see, and WALKERS it sees whatever they take. */
        private final int[] visible = new int[WALKERS];
        private final int[] painted = new int[WALKERS];
        /** One more than the WAY that a WALKER takes by what it sees; 0: not worked out yet. */
        private final int[] worked = new int[WALKERS * SIGHTS];
        /** Where in the list of all DAYS those that HOLD are. */
        final int[] held = new int[DAYS];
        int holds;
        private final int[] reached = new int[DAYS];

        Days(World ofAll, Law inForce) {
            world = ofAll;
            law = inForce;
        }

        void spoil() {
            stale = true;
        }

        void settle() {
            if (stale) {
                list();
                observe();
                forget();
                gather();
                stale = false;
            }
        }

        private void list() {
            numbers[0] = 0;
            waysTaken[0] = 0;
            size = 1;
            for (int i = 0; i < world.walkers; i++) {
                spread(i);
            }
        }

        /** Each DAY so far comes again with each further WAY of the WALKER. */
        private void spread(int walker) {
            int before = size;
            for (int way = 1; way < world.ways[walker]; way++) {
                for (int d = 0; d < before && size < DAYS; d++) {
                    numbers[size] = numbers[d] | way << 2 * walker;
                    waysTaken[size] = waysTaken[d] | 1 << World.wayIndex(walker, way);
                    size++;
                }
            }
            for (int d = 0; d < before; d++) {
                waysTaken[d] |= 1 << World.wayIndex(walker, 0);
            }
        }

        /** What each WALKER may see; tells whether that is other than before. */
        boolean observe() {
            boolean other = false;
            for (int i = 0; i < world.walkers; i++) {
                int tracks = world.tracks(firstPlace(i), world.start(i)) & ~World.allWaysOf(i);
                other = other || tracks != visible[i];
                visible[i] = tracks;
            }
            Arrays.fill(painted, 0);
            return other;
        }

        /** What THE LAW gives is to be worked out anew. */
        void forget() {
            Arrays.fill(worked, 0);
        }

        void forgetOne(int walker) {
            for (int sight = 0; sight < SIGHTS; sight++) {
                worked[walker * SIGHTS + sight] = 0;
            }
        }

        private int firstPlace(int walker) {
            return world.places[World.wayIndex(walker, 0)][0];
        }

        void gather() {
            holds = 0;
            // Days unlike in WALKER 0's way alone stand together: one of them at most holds.
            int alike = Math.max(world.ways[0], 1);
            for (int first = 0; first < size; first += alike) {
                int d = world.walkers > 0 ? first + lawful(0, waysTaken[first]) : first;
                if (d < size && holds < DAYS && isHeld(numbers[d], waysTaken[d])) {
                    held[holds] = d;
                    holds++;
                }
            }
        }

        boolean isHeld(int day, int ways) {
            for (int i = 0; i < world.walkers; i++) {
                if (lawful(i, ways) != World.choice(day, i)) {
                    return false;
                }
            }
            return true;
        }

        /** The WAY that THE LAW gives a WALKER, where these ways are taken. */
        int lawful(int walker, int ways) {
            int sight = World.walkersOf(visible[walker] & ways) | painted[walker];
            int known = worked[walker * SIGHTS + sight];
            if (known == 0) {
                int given = law.gives(sight, walker, world.lead(walker), world.ways[walker], world.start(walker));
                known = 1 + Math.floorMod(given, Math.max(world.ways[walker], 1));
                worked[walker * SIGHTS + sight] = known;
            }
            return known - 1;
        }

        int heldDay(int k) {
            return k >= 0 && k < holds ? numbers[held[k]] : NOT;
        }

        int costOf(int day, int ways) {
            int cost = 0;
            for (int i = 0; i < world.walkers; i++) {
                if (lawful(i, ways) != World.choice(day, i)) {
                    cost += world.told(i, FALL);
                }
            }
            return cost;
        }

        /** The DAY on which each takes what THE LAW gives by this one. */
        int nextDay(int day) {
            int ways = world.waysOn(day);
            int next = 0;
            for (int i = 0; i < world.walkers; i++) {
                next |= lawful(i, ways) << 2 * i;
            }
            return next;
        }

        /** FOLLOW: steps (0), the round (1), the DAY that comes again (2). */
        int followed(int day, int what) {
            Arrays.fill(reached, -1);
            int now = day;
            int steps = 0;
            while (steps < DAYS && reached[now] < 0) {
                reached[now] = steps;
                now = nextDay(now);
                steps++;
            }
            if (what == 0) {
                return steps;
            }
            return what == 1 ? steps - reached[now] : now;
        }

        /** From now on, till the next observe(): a WALKER's TRACKS are seen in a PLACE by all others. */
        void paint(int walker, int place) {
            for (int i = 0; i < world.walkers; i++) {
                if (i != walker && firstPlace(i) == place) {
                    painted[i] |= 1 << walker;
                }
            }
        }

        /** From now on, till the next observe(): who starts there then sees none. */
        void drown(int place, int from, int to) {
            for (int i = 0; i < world.walkers; i++) {
                if (firstPlace(i) == place && world.start(i) >= from && world.start(i) <= to) {
                    visible[i] = 0;
                }
            }
        }

        boolean lawNamesLead() {
            return law.namesLead();
        }
    }

    /** What the DAYS that HOLD, or that fit what was read, have in common, and where they part. */
    private static final class Readings {
        private static final int LAST_LOOK = 60, LAST_GUARD = 400;

        private final World world;
        private final Days days;
        /** Where in the list of all DAYS those are that fit. */
        private final int[] fits = new int[DAYS];
        int fitting;
        private final int[] parts = new int[SIGHTS];
        /** Ways by minute and PLACE. */
        private final int[] cells = new int[(LAST_GUARD + 1) * PLACES];

        Readings(World ofAll, Days ofThese) {
            world = ofAll;
            days = ofThese;
        }

        int surePlace(int walker, int minute) {
            if (days.holds == 0) {
                return NOT;
            }
            int sure = world.placeAt(World.wayOn(days.heldDay(0), walker), minute);
            for (int h = 1; h < days.holds; h++) {
                if (world.placeAt(World.wayOn(days.heldDay(h), walker), minute) != sure) {
                    return UNSURE;
                }
            }
            return sure == NOT ? UNSURE : sure;
        }

        /** READ: the DAYS that fit; a refusal, or 0. */
        int narrowBy(Shelf row) {
            int refusal = row.refusalOfSort(Shelf.SHORTS);
            if (refusal != 0) {
                return refusal;
            }
            if (!row.tellsTracks()) {
                return STATE;
            }
            fitting = days.holds;
            System.arraycopy(days.held, 0, fits, 0, fitting);
            for (int i = 0; i + 2 < row.size; i += 3) {
                keepAlike((int) row.elements[i], (int) row.elements[i + 1], (int) row.elements[i + 2]);
            }
            return 0;
        }

        private void keepAlike(int place, int minute, int walkers) {
            int tracks = world.tracks(place, minute);
            int kept = 0;
            for (int f = 0; f < fitting; f++) {
                if (World.walkersOf(tracks & days.waysTaken[fits[f]]) == walkers) {
                    fits[kept] = fits[f];
                    kept++;
                }
            }
            fitting = kept;
        }

        int firstFitting() {
            return fitting == 0 ? NOT : days.numbers[fits[0]];
        }

        int alikeWalkers() {
            if (fitting == 0) {
                return 0;
            }
            int common = -1;
            for (int f = 0; f < fitting; f++) {
                common &= days.waysTaken[fits[f]];
            }
            return World.walkersOf(common);
        }

        /** NEXT LOOK among the DAYS that fit. */
        int bestLook() {
            Arrays.fill(cells, 0);
            for (int way = 0; way < world.walkers * WAYS_EACH; way++) {
                markTracks(way);
            }
            int best = 0;
            int least = fitting;
            for (int c = 0; c < (LAST_LOOK + 1) * PLACES; c++) {
                if (cells[c] != 0) {
                    int greatest = greatestPart(cells[c]);
                    if (greatest < least) {
                        least = greatest;
                        best = c;
                    }
                }
            }
            return best / PLACES * 10 + best % PLACES;
        }

        private void markTracks(int way) {
            int lead = world.lead(way / WAYS_EACH);
            for (int k = 0; k < world.lengths[way]; k++) {
                int comes = world.comes[way][k];
                int last = Math.min(comes - 1, LAST_LOOK);
                for (int minute = Math.max(comes - lead, 0); minute <= last; minute++) {
                    cells[minute * PLACES + world.places[way][k]] |= 1 << way;
                }
            }
        }

        private int greatestPart(int tracks) {
            Arrays.fill(parts, 0);
            int greatest = 0;
            for (int f = 0; f < fitting; f++) {
                int sight = World.walkersOf(tracks & days.waysTaken[fits[f]]);
                parts[sight]++;
                greatest = Math.max(greatest, parts[sight]);
            }
            return greatest;
        }

        /** CHEAPEST: the cost (0), the DAY (1). */
        int cheapestWithout(int walker, int place, int what) {
            int least = NOT;
            int best = NOT;
            for (int d = 0; d < days.size; d++) {
                int day = days.numbers[d];
                if (!world.goesBy(World.wayOn(day, walker), place)) {
                    int cost = days.costOf(day, days.waysTaken[d]);
                    if (least == NOT || cost < least) {
                        least = cost;
                        best = day;
                    }
                }
            }
            return what == 0 ? least : best;
        }

        /** GUARD: how many DAYS (0), where (1). */
        int bestGuard(int walkers, int what) {
            if (days.holds == 0) {
                return NOT;
            }
            Arrays.fill(cells, 0);
            for (int way = 0; way < world.walkers * WAYS_EACH; way++) {
                if ((walkers >> way / WAYS_EACH & 1) != 0) {
                    markVisits(way);
                }
            }
            int best = 0;
            int most = 0;
            for (int c = 0; c < cells.length; c++) {
                if (cells[c] != 0) {
                    int met = daysWithAny(cells[c]);
                    if (met > most) {
                        most = met;
                        best = c;
                    }
                }
            }
            return what == 0 ? most : best / PLACES * 10 + best % PLACES;
        }

        private void markVisits(int way) {
            for (int k = 0; k < world.lengths[way]; k++) {
                int comes = world.comes[way][k];
                if (comes >= 0 && comes <= LAST_GUARD) {
                    cells[comes * PLACES + world.places[way][k]] |= 1 << way;
                }
            }
        }

        private int daysWithAny(int ways) {
            int found = 0;
            for (int h = 0; h < days.holds; h++) {
                if ((days.waysTaken[days.held[h]] & ways) != 0) {
                    found++;
                }
            }
            return found;
        }
    }

    /** DAYS that would HOLD, were things otherwise; all is as it was behind each. */
    private static final class Trials {
        private final World world;
        private final Days days;
        private final int[] ownLeads = new int[WALKERS];

        Trials(World ofAll, Days ofThese) {
            world = ofAll;
            days = ofThese;
        }

        /** SHOES: the LEAD (0), how many (1). */
        int bestLead(int walker, int what) {
            boolean lawDiffers = days.lawNamesLead();
            int own = world.lead(walker);
            int best = NOT;
            int fewest = NOT;
            for (int lead = 0; lead <= MOST_LEAD; lead++) {
                world.tryLead(walker, lead);
                boolean sightsDiffer = days.observe();
                if (lawDiffers) {
                    days.forgetOne(walker);
                }
                if (sightsDiffer || lawDiffers) {
                    days.gather();
                }
                if (days.holds > 0 && (fewest == NOT || days.holds < fewest)) {
                    fewest = days.holds;
                    best = lead;
                }
            }
            world.tryLead(walker, own);
            days.spoil();
            return what == 0 ? best : fewest;
        }

        /** FALSE: how many HOLD (0), the first (1). */
        int withFalseTracks(int walker, int place, int what) {
            days.paint(walker, place);
            return countTried(what);
        }

        /** FLOOD: how many HOLD (0), the first (1). */
        int withFlood(int place, int from, int to, int what) {
            days.drown(place, from, to);
            return countTried(what);
        }

        private int countTried(int what) {
            days.gather();
            int answer = what == 0 ? days.holds : days.heldDay(0);
            days.spoil();
            return answer;
        }

        /** DRAWN: DAYS together (0), how many times none (1). */
        int withDrawnLeads(int seed, int n, int what) {
            keepLeads();
            int z = seed;
            int together = 0;
            int none = 0;
            for (int time = 0; time < n; time++) {
                z = drawLeads(z);
                days.observe();
                days.forget();
                days.gather();
                together += days.holds;
                none += days.holds == 0 ? 1 : 0;
            }
            giveLeadsBack();
            days.spoil();
            return what == 0 ? together : none;
        }

        private int drawLeads(int seed) {
            int z = seed;
            for (int i = 0; i < world.walkers; i++) {
                z = z * 1103515245 + 12345;
                world.tryLead(i, (z >>> 8) % (MOST_LEAD + 1));
            }
            return z;
        }

        private void keepLeads() {
            for (int i = 0; i < world.walkers; i++) {
                ownLeads[i] = world.lead(i);
            }
        }

        private void giveLeadsBack() {
            for (int i = 0; i < world.walkers; i++) {
                world.tryLead(i, ownLeads[i]);
            }
        }
    }

    /** What LED tells, and AN IMAGE of it. */
    private static final class Deeds {
        static final int LIVED = 0, MEETINGS = 1, FALLS = 2, LATEST = 3;

        private final int[] now = new int[LATEST + 1];
        private final int[] kept = new int[LATEST + 1];
        private boolean imaged;

        Deeds() {
            now[LATEST] = NOT;
        }

        int told(int what) {
            return now[what];
        }

        void lived(int day, int met, int cost) {
            now[LIVED]++;
            now[MEETINGS] += met;
            now[FALLS] += cost;
            now[LATEST] = day;
        }

        void keepImage() {
            System.arraycopy(now, 0, kept, 0, now.length);
            imaged = true;
        }

        boolean layBack() {
            if (imaged) {
                System.arraycopy(kept, 0, now, 0, now.length);
            }
            return imaged;
        }
    }

    /** CHANGES, the latest last: those made, and behind them those UNDONE. */
    private static final class Changes {
        private static final int KEPT = 40;
        private static final int WHAT = 0, NUMBER = 1, WAS = 2, BECAME = 3;

        private final int[][] log = new int[4][KEPT];
        int made;
        private int all;

        void note(int what, int number, int was, int became) {
            if (made >= KEPT) {
                dropOldest();
            }
            log[WHAT][made] = what;
            log[NUMBER][made] = number;
            log[WAS][made] = was;
            log[BECAME][made] = became;
            made++;
            all = made;
        }

        private void dropOldest() {
            for (int part = WHAT; part <= BECAME; part++) {
                System.arraycopy(log[part], 1, log[part], 0, KEPT - 1);
            }
            made = KEPT - 1;
        }

        boolean unmake(World world) {
            if (made <= 0) {
                return false;
            }
            made--;
            world.tell(log[NUMBER][made], log[WHAT][made], log[WAS][made]);
            return true;
        }

        boolean remake(World world) {
            if (made >= all) {
                return false;
            }
            world.tell(log[NUMBER][made], log[WHAT][made], log[BECAME][made]);
            made++;
            return true;
        }

        int unmade() {
            return all - made;
        }
    }

    /** Nothing, a BODY, or a ROW, whose elements of any sort are kept as longs. */
    private static final class Shelf {
        static final int EMPTY = -1, BYTES = 0, SHORTS = 1, INTS = 2, LONGS = 3, BOOLEANS = 4, BODY = 5;
        static final int MOST = 60;

        int sort = EMPTY;
        int size;
        int kind;
        final long[] elements = new long[MOST];

        void clear() {
            sort = EMPTY;
            size = 0;
        }

        void holdBody(int ofKind) {
            sort = BODY;
            size = 0;
            kind = ofKind;
        }

        void holdRow(int ofSort, int n) {
            sort = ofSort;
            size = n;
            Arrays.fill(elements, 0L);
        }

        int refusalOfRow() {
            if (sort == EMPTY) {
                return NOTHING;
            }
            return sort == BODY ? OTHER_KIND : 0;
        }

        int refusalOfSort(int wanted) {
            if (sort == EMPTY) {
                return NOTHING;
            }
            return sort == wanted ? 0 : OTHER_KIND;
        }

        boolean hasPlaces(int i, int n) {
            return i >= 0 && n >= 0 && i <= size && n <= size - i;
        }

        void set(int i, long v) {
            elements[i] = trimmed(v);
        }

        private long trimmed(long v) {
            switch (sort) {
                case BYTES:
                    return (byte) v;
                case SHORTS:
                    return (short) v;
                case INTS:
                    return (int) v;
                case BOOLEANS:
                    return v != 0 ? 1 : 0;
                default:
                    return v;
            }
        }

        /** Whether n PLACES stand from i on. */
        boolean tellsPlaces(int i, int n) {
            if (!hasPlaces(i, n)) {
                return false;
            }
            for (int k = i; k < i + n; k++) {
                if (elements[k] < 0 || elements[k] >= PLACES) {
                    return false;
                }
            }
            return true;
        }

        /** Whether it is all threes of a PLACE, a minute and WALKERS. */
        boolean tellsTracks() {
            if (size % 3 != 0) {
                return false;
            }
            for (int i = 0; i + 2 < size; i += 3) {
                boolean sound = isWithin(elements[i], PLACES - 1) && isWithin(elements[i + 1], LAST_MINUTE)
                    && isWithin(elements[i + 2], (1 << WALKERS) - 1);
                if (!sound) {
                    return false;
                }
            }
            return true;
        }

        private static boolean isWithin(long v, int most) {
            return v >= 0 && v <= most;
        }
    }

    /** BODIES, and THE TRACE of the latest act. */
    private static final class Bodies {
        static final int KINDS = 8;
        private static final int TRACK = 0, NEAR = 1, FAR = 2, BESIDE = 3, FALSE = 4, SHOD = 5, DANCED = 6, LAST = 7;
        /** The KIND that each is under. */
        private static final int[] ABOVE = {-1, 0, 0, 2, 1, 3, 0, 6};
        private static final int MOST = 50, TRACED = 24;
        /** No act comes near it: each call goes up a kind, or on to a simpler act. */
        private static final int DEEPEST = 40;

        int kept;
        private final int[] kinds = new int[MOST];
        /** Bodies that began in the latest act; the first of them are kept. */
        int began;
        private final int[] ran = new int[TRACED];
        /** The BODY that acts. */
        private int number;
        private int kind;

        int add(int ofKind) {
            if (kept >= MOST) {
                return -1;
            }
            kinds[kept] = ofKind;
            kept++;
            return kept - 1;
        }

        boolean isThere(int body) {
            return body >= 0 && body < kept;
        }

        int kindOf(int body) {
            return kinds[body];
        }

        static boolean isUnder(int kind, int k) {
            int upper = kind;
            for (int up = 0; up < KINDS && upper != k; up++) {
                upper = above(upper);
            }
            return upper == k;
        }

        private static int above(int kind) {
            return kind >= 0 && kind < KINDS ? ABOVE[kind] : -1;
        }

        int ranAt(int i) {
            return i >= 0 && i < began && i < TRACED ? ran[i] : BAD;
        }

        int perform(int body, int act, int x) {
            began = 0;
            if (!isThere(body)) {
                return 0;
            }
            number = body;
            kind = kinds[body];
            switch (act) {
                case 0:
                    return leads(kind, x, 0);
                case 1:
                    return treads(kind, x, 0);
                case 2:
                    return reads(kind, x, 0);
                case 3:
                    return tells(kind, x, 0);
                default:
                    return 0;
            }
        }

        private void begin(int which) {
            if (began < TRACED) {
                ran[began] = which;
            }
            began++;
        }

        // Each act runs its body of the kind 'from', or of the next kind above that has one.

        private int leads(int from, int x, int open) {
            if (open > DEEPEST) {
                return 0;
            }
            switch (from) {
                case TRACK:
                    begin(1);
                    return x + number;
                case NEAR:
                    begin(20);
                    return leads(TRACK, x, open + 1) + 3;
                case DANCED:
                    begin(70);
                    return leads(TRACK, x, open + 1) * 2;
                case LAST:
                    begin(81);
                    return leads(DANCED, x, open + 1) - 1;
                default:
                    return leads(above(from), x, open + 1);
            }
        }

        private int treads(int from, int x, int open) {
            if (open > DEEPEST) {
                return 0;
            }
            switch (from) {
                case TRACK:
                    begin(10);
                    return leads(kind, x, open + 1) * 2;
                case FAR:
                    begin(30);
                    return -treads(TRACK, x, open + 1);
                case BESIDE:
                    begin(41);
                    return treads(FAR, x + 1, open + 1);
                case LAST:
                    begin(80);
                    int trodden = treads(DANCED, x, open + 1);
                    return trodden + reads(kind, 2, open + 1);
                default:
                    return treads(above(from), x, open + 1);
            }
        }

        private int reads(int from, int x, int open) {
            if (open > DEEPEST) {
                return 0;
            }
            switch (from) {
                case TRACK:
                    begin(11);
                    return x ^ number;
                case BESIDE:
                    begin(40);
                    return reads(FAR, x, open + 1) * 3;
                case SHOD:
                    begin(60);
                    int read = reads(BESIDE, x, open + 1);
                    return read - leads(kind, 2, open + 1);
                default:
                    return reads(above(from), x, open + 1);
            }
        }

        private int tells(int from, int x, int open) {
            if (open > DEEPEST) {
                return 0;
            }
            switch (from) {
                case TRACK:
                    begin(2);
                    int trodden = treads(kind, x, open + 1);
                    return trodden - reads(kind, 1, open + 1);
                case FALSE:
                    begin(50);
                    return tells(NEAR, x, open + 1) ^ 5;
                case SHOD:
                    begin(61);
                    return tells(BESIDE, x, open + 1) + 1;
                default:
                    return tells(above(from), x, open + 1);
            }
        }
    }
}
