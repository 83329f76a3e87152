/** Promises 32 to 34, and what the Terms say of BODIES and ACTS: each edge by the words that name it. */
public final class ActsEdgesTest {
    private static final Due due = new Due("ActsEdgesTest");

    public static void main(String[] args) {
        fiftyBodies();
        kinds();
        fourActs();
        noSuchBody();
        noSuchAct();
        leads();
        treads();
        reads();
        tells();
        bodyOfTheOwnKind();
        superOfTheBodysKind();
        wraps();
        asTheyBegan();
        latestActAlone();
        traceBad();
        howManyRan();
        refusedChangesNothing();
        due.end();
    }

    /** BODY n is of KIND n, for each of the eight. */
    private static FootstepsAhead eight() {
        FootstepsAhead x = new FootstepsAhead();
        for (int kind = 0; kind < 8; kind++) {
            x.body(kind);
        }
        return x;
    }

    private static void fiftyBodies() {
        due.on("BODIES 0 .. 49 are kept by call,");
        FootstepsAhead x = new FootstepsAhead();
        for (int i = 0; i < 50; i++) {
            due.is("act of none yet", x.act(i, 0, 1000), 0);
            due.is("body", x.body(0), i);
            due.is("its act", x.act(i, 0, 1000), 1000 + i);
        }
        due.is("FULL", x.body(0), -3);
        due.is("no kind, full", x.body(8), -1);
        due.is("no kind, full", x.body(-1), -1);
        due.is("fifty", x.count(4), 50);
        due.is("no act of the 51st", x.act(50, 0, 1000), 0);
    }

    private static void kinds() {
        due.on("A BODY of a KIND (0 .. 7) is kept: its number. BAD, FULL.");
        FootstepsAhead x = new FootstepsAhead();
        int[] none = {-1, 8, Integer.MAX_VALUE, Integer.MIN_VALUE};
        for (int kind : none) {
            due.is("kind " + kind, x.body(kind), -1);
        }
        due.is("none is kept", x.count(4), 0);
        due.is("kind 7", x.body(7), 0);
        due.is("kind 0", x.body(0), 1);
    }

    private static void fourActs() {
        due.on("ACTS with x (an int that wraps): 0 leads, 1 treads, 2 reads, 3 tells;");
        FootstepsAhead x = new FootstepsAhead();
        x.body(0);
        x.body(0);
        x.body(0);
        int[] want = {5 + 2, (5 + 2) * 2, 5 ^ 2, (5 + 2) * 2 - (1 ^ 2)};
        for (int act = 0; act < 4; act++) {
            due.is("act " + act, x.act(2, act, 5), want[act]);
        }
    }

    private static void noSuchBody() {
        due.on("0, and no TRACE then: no such BODY, ACT.");
        FootstepsAhead x = eight();
        int[] none = {-1, 8, 49, 50, Integer.MAX_VALUE, Integer.MIN_VALUE};
        for (int body : none) {
            x.act(0, 3, 5);
            due.is("a trace before", x.trace(0), 2);
            due.is("body " + body, x.act(body, 0, 5), 0);
            due.is("no trace then", x.trace(0), -1);
            due.is("none ran", x.count(5), 0);
        }
    }

    private static void noSuchAct() {
        due.on("0, and no TRACE then: no such BODY, ACT.");
        FootstepsAhead x = eight();
        int[] none = {-1, 4, 10, 20, Integer.MAX_VALUE, Integer.MIN_VALUE};
        for (int act : none) {
            x.act(0, 3, 5);
            due.is("act " + act, x.act(0, act, 5), 0);
            due.is("no trace then", x.trace(0), -1);
            due.is("none ran", x.count(5), 0);
        }
    }

    /** The answer of an act of BODY n of KIND n with 5, and its trace. */
    private static void acts(int kind, int act, int want, int... trace) {
        FootstepsAhead x = eight();
        String call = "act " + act + " of kind " + kind;
        due.is(call, x.act(kind, act, 5), want);
        due.is(call + " ran", x.count(5), trace.length);
        for (int i = 0; i < trace.length; i++) {
            due.is(call + " trace " + i, x.trace(i), trace[i]);
        }
        due.is(call + " trace behind", x.trace(trace.length), -1);
    }

    private static void leads() {
        due.on("1 leads: x + n.");
        acts(0, 0, 5, 1);
        acts(2, 0, 7, 1);
        acts(3, 0, 8, 1);
        acts(5, 0, 10, 1);
        due.on("NEAR: 20 leads: super.leads(x) + 3.");
        acts(1, 0, 9, 20, 1);
        acts(4, 0, 12, 20, 1);
        due.on("DANCED: 70 leads: super.leads(x) * 2.");
        acts(6, 0, 22, 70, 1);
        due.on("81 leads: super.leads(x) - 1.");
        acts(7, 0, 23, 81, 70, 1);
    }

    private static void treads() {
        due.on("TRACK: 10 treads: leads(x) * 2.");
        acts(0, 1, 10, 10, 1);
        acts(1, 1, 18, 10, 20, 1);
        acts(4, 1, 24, 10, 20, 1);
        acts(6, 1, 44, 10, 70, 1);
        due.on("FAR: 30 treads: -super.treads(x).");
        acts(2, 1, -14, 30, 10, 1);
        due.on("41 treads: super.treads(x + 1).");
        acts(3, 1, -18, 41, 30, 10, 1);
        acts(5, 1, -22, 41, 30, 10, 1);
        due.on("LAST: 80 treads: super.treads(x) + reads(2).");
        acts(7, 1, 46 + 5, 80, 10, 81, 70, 1, 11);
    }

    private static void reads() {
        due.on("11 reads: x ^ n.");
        int[] plain = {0, 1, 2, 4, 6, 7};
        for (int kind : plain) {
            acts(kind, 2, 5 ^ kind, 11);
        }
        due.on("BESIDE: 40 reads: super.reads(x) * 3.");
        acts(3, 2, (5 ^ 3) * 3, 40, 11);
        due.on("SHOD: 60 reads: super.reads(x) - leads(2).");
        acts(5, 2, (5 ^ 5) * 3 - 7, 60, 40, 11, 1);
    }

    private static void tells() {
        due.on("TELLS (of TRACK): 2 tells: treads(x) - reads(1).");
        acts(0, 3, 10 - 1, 2, 10, 1, 11);
        acts(1, 3, 18 - (1 ^ 1), 2, 10, 20, 1, 11);
        acts(2, 3, -14 - (1 ^ 2), 2, 30, 10, 1, 11);
        acts(3, 3, -18 - (1 ^ 3) * 3, 2, 41, 30, 10, 1, 40, 11);
        acts(6, 3, 44 - (1 ^ 6), 2, 10, 70, 1, 11);
        acts(7, 3, 51 - (1 ^ 7), 2, 80, 10, 81, 70, 1, 11, 11);
        due.on("FALSE: 50 tells: super.tells(x) ^ 5.");
        acts(4, 3, 24 - (1 ^ 4) ^ 5, 50, 2, 10, 20, 1, 11);
        due.on("61 tells: super.tells(x) + 1.");
        acts(5, 3, -22 - ((1 ^ 5) * 3 - 7) + 1, 61, 2, 41, 30, 10, 1, 60, 40, 11, 1);
    }

    private static void bodyOfTheOwnKind() {
        due.on("leads(..) and so on: the body of its own KIND, or of the next KIND above that has one;");
        FootstepsAhead x = eight();
        x.act(1, 1, 5);
        due.is("NEAR's own leads in TRACK's treads", x.trace(1), 20);
        x.act(4, 1, 5);
        due.is("FALSE's next leads above", x.trace(1), 20);
        x.act(5, 1, 5);
        due.is("SHOD's next treads above", x.trace(0), 41);
        x.act(5, 3, 5);
        due.is("SHOD's own reads in TELLS' tells", x.trace(6), 60);
    }

    private static void superOfTheBodysKind() {
        due.on("super: from the KIND above the body's on.");
        FootstepsAhead x = eight();
        x.act(5, 1, 5);
        due.is("from BESIDE's on to FAR's, though it is SHOD", x.trace(1), 30);
        x.act(7, 1, 5);
        due.is("from LAST's past DANCED to TRACK's", x.trace(1), 10);
        x.act(4, 3, 5);
        due.is("from FALSE's past NEAR and TRACK to TELLS'", x.trace(1), 2);
    }

    private static void wraps() {
        due.on("ACTS with x (an int that wraps):");
        FootstepsAhead x = eight();
        int most = Integer.MAX_VALUE;
        int least = Integer.MIN_VALUE;
        due.is("leads", x.act(1, 0, most), least + 3);
        due.is("treads", x.act(0, 1, 1 << 30), least);
        due.is("treads of FAR", x.act(2, 1, (1 << 30) - 2), least);
        due.is("treads of BESIDE", x.act(3, 1, most), -(least + 3) * 2);
        due.is("reads of BESIDE", x.act(3, 2, most), (most ^ 3) * 3);
        due.is("tells", x.act(0, 3, least), -1);
        due.is("leads of LAST", x.act(7, 0, most), (most + 7) * 2 - 1);
    }

    private static void asTheyBegan() {
        due.on("THE TRACE: numbers of the bodies that ran in the latest act(), as they began; the first 24 are kept.");
        FootstepsAhead x = eight();
        x.act(5, 3, 5);
        int[] began = {61, 2, 41, 30, 10, 1, 60, 40, 11, 1}; // the longest that any act has
        for (int i = 0; i < began.length; i++) {
            due.is("trace " + i, x.trace(i), began[i]);
        }
        for (int i = began.length; i < 26; i++) {
            due.is("trace " + i, x.trace(i), -1);
        }
    }

    private static void latestActAlone() {
        due.on("numbers of the bodies that ran in the latest act(),");
        FootstepsAhead x = eight();
        x.act(5, 3, 5);
        x.act(0, 2, 5);
        due.is("reads", x.trace(0), 11);
        due.is("nothing of the act before", x.trace(1), -1);
        due.is("one ran", x.count(5), 1);
        x.body(0);
        x.keep(0, 0);
        x.taken(0, 0);
        due.is("no other call touches it", x.trace(0), 11);
    }

    private static void traceBad() {
        due.on("THE TRACE's i-th body. BAD.");
        FootstepsAhead x = eight();
        due.is("no act yet", x.trace(0), -1);
        x.act(0, 1, 5);
        int[] none = {-1, 2, 23, 24, 25, Integer.MAX_VALUE, Integer.MIN_VALUE};
        for (int i : none) {
            due.is("trace " + i, x.trace(i), -1);
        }
        due.is("trace 1", x.trace(1), 1);
    }

    private static void howManyRan() {
        due.on("5 bodies that ran in the latest act() (all, kept or not).");
        FootstepsAhead x = eight();
        due.is("no act yet", x.count(5), 0);
        x.act(5, 3, 5);
        due.is("ten", x.count(5), 10);
        x.act(0, 0, 5);
        due.is("one", x.count(5), 1);
        x.act(0, 4, 5);
        due.is("none", x.count(5), 0);
    }

    private static void refusedChangesNothing() {
        due.on("What is answered so changes nothing.");
        FootstepsAhead x = new FootstepsAhead();
        FootstepsAhead y = new FootstepsAhead();
        for (int i = 0; i < 50; i++) {
            x.body(i % 8);
            y.body(i % 8);
        }
        x.act(5, 3, 5);
        y.act(5, 3, 5);
        due.is("body BAD", x.body(8), -1);
        due.is("body FULL", x.body(0), -3);
        due.is("trace BAD", x.trace(10), -1);
        Alike.ask(due, "refused of bodies", x, y);
    }
}
