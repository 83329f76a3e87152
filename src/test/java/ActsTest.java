/** Promises 32 to 34, and 41 of them: body, act, trace, count. */
public final class ActsTest {
    private static final Due due = new Due("ActsTest");

    public static void main(String[] args) {
        bodies();
        tellings();
        asTheLanguageFindsThem();
        due.end();
    }

    private static void bodies() {
        FootstepsAhead x = new FootstepsAhead();
        due.is("kind -1", x.body(-1), -1);
        due.is("kind 8", x.body(8), -1);
        for (int i = 0; i < 50; i++) {
            due.is("body " + i, x.body(i % 8), i);
            due.is("count 4", x.count(4), i + 1);
        }
        due.is("body 50", x.body(0), -3);
        due.is("body 50 of no kind", x.body(8), -1);
        due.is("count 4", x.count(4), 50);
        due.is("the last acts", x.act(49, 0, 5), 57);
        due.is("act 50", x.act(50, 0, 5), 0);
    }

    private static void trace(FootstepsAhead x, String call, int... ran) {
        due.is(call + " ran", x.count(5), ran.length);
        for (int i = 0; i < ran.length; i++) {
            due.is(call + " trace " + i, x.trace(i), ran[i]);
        }
        due.is(call + " trace behind", x.trace(ran.length), -1);
        due.is(call + " trace -1", x.trace(-1), -1);
        due.is(call + " trace 24", x.trace(24), -1);
        due.is(call + " trace far", x.trace(Integer.MAX_VALUE), -1);
    }

    /** Each worked out by hand. */
    private static void tellings() {
        FootstepsAhead x = new FootstepsAhead();
        for (int kind = 0; kind < 8; kind++) {
            x.body(kind);
        }
        trace(x, "no act");
        due.is("track leads", x.act(0, 0, 5), 5);
        trace(x, "track leads", 1);
        due.is("near treads", x.act(1, 1, 5), (5 + 1 + 3) * 2);
        trace(x, "near treads", 10, 20, 1);
        due.is("far treads", x.act(2, 1, 5), -(5 + 2) * 2);
        trace(x, "far treads", 30, 10, 1);
        due.is("beside tells", x.act(3, 3, 5), -(6 + 3) * 2 - (1 ^ 3) * 3);
        trace(x, "beside tells", 2, 41, 30, 10, 1, 40, 11);
        due.is("false tells", x.act(4, 3, 5), ((5 + 4 + 3) * 2 - (1 ^ 4)) ^ 5);
        trace(x, "false tells", 50, 2, 10, 20, 1, 11);
        due.is("shod tells", x.act(5, 3, 5), -(6 + 5) * 2 - ((1 ^ 5) * 3 - (2 + 5)) + 1);
        trace(x, "shod tells", 61, 2, 41, 30, 10, 1, 60, 40, 11, 1);
        due.is("danced treads", x.act(6, 1, 5), (5 + 6) * 2 * 2);
        trace(x, "danced treads", 10, 70, 1);
        due.is("last tells", x.act(7, 3, 5), ((5 + 7) * 2 - 1) * 2 + (2 ^ 7) - (1 ^ 7));
        trace(x, "last tells", 2, 80, 10, 81, 70, 1, 11, 11);
        due.is("no act 4", x.act(7, 4, 5), 0);
        trace(x, "no act 4");
        x.act(7, 3, 5);
        due.is("no act -1", x.act(7, -1, 5), 0);
        trace(x, "no act -1");
        x.act(7, 3, 5);
        due.is("no body 8", x.act(8, 0, 5), 0);
        trace(x, "no body 8");
        x.act(7, 3, 5);
        due.is("no body -1", x.act(-1, 0, 5), 0);
        trace(x, "no body -1");
    }

    private static void asTheLanguageFindsThem() {
        int[] values = {0, 1, -1, 5, 1000000007, Integer.MAX_VALUE, Integer.MIN_VALUE};
        for (int first = 0; first < 3; first++) {
            FootstepsAhead x = new FootstepsAhead();
            ModelActs m = new ModelActs();
            for (int i = 0; i < 8 + first; i++) {
                due.is("body", x.body((i + first) % 8), m.body((i + first) % 8));
            }
            for (int v : values) {
                for (int b = 0; b < 8 + first; b++) {
                    for (int act = 0; act < 4; act++) {
                        String call = "act " + b + " " + act + " " + v;
                        due.is(call, x.act(b, act, v), m.act(b, act, v));
                        due.is(call + " ran", x.count(5), m.ran.size());
                        for (int i = 0; i < m.ran.size(); i++) {
                            due.is(call + " trace " + i, x.trace(i), m.ran.get(i));
                        }
                    }
                }
            }
        }
    }
}
