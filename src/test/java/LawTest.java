import java.util.HashMap;
import java.util.Map;
import java.util.Random;

/** Promises 7 and 8: feed, law; and what THE LAW gives, by takes(). */
public final class LawTest {
    private static final Due due = new Due("LawTest");

    public static void main(String[] args) {
        tape();
        faults();
        adopting();
        values();
        names();
        drawnTexts();
        due.end();
    }

    private static void tape() {
        FootstepsAhead x = new FootstepsAhead();
        due.is("feed -1", x.feed(-1), -1);
        due.is("feed 256", x.feed(256), -1);
        due.is("feed 0", x.feed(0), 1);
        due.is("feed 255", x.feed(255), 2);
        due.is("count 2", x.count(2), 2);
        for (int i = 3; i <= 120; i++) {
            due.is("feed " + i, x.feed('n'), i);
        }
        due.is("feed 121", x.feed('n'), -3);
        due.is("feed 121, no byte", x.feed(256), -1);
        due.is("count 2 full", x.count(2), 120);
        due.is("law", x.law(), -100);
        due.is("the tape is empty then", x.count(2), 0);
        StringBuilder longest = new StringBuilder("n");
        for (int i = 0; i < 59; i++) {
            longest.append("+n");
        }
        due.is("119 bytes", Due.law(x, longest.toString()), 1);
        due.is("120 bytes", Due.law(x, longest + "?"), -220);
        due.is("120 bytes", Due.law(x, "1" + longest.substring(1) + "!"), -219);
        due.is("120 bytes", Due.law(x, "10" + longest.substring(1)), 1);
        due.is("the tape is empty then", x.count(2), 0);
    }

    private static void fault(String text, int place) {
        FootstepsAhead x = new FootstepsAhead();
        due.is("fault of '" + text + "'", Due.law(x, text), place < 0 ? 1 : -100 - place);
        due.is("tape behind '" + text + "'", x.count(2), 0);
    }

    private static void faults() {
        Object[][] texts = {
            {"", 0}, {"n", -1}, {"s", -1}, {"k", -1}, {"l", -1}, {"w", -1}, {"m", -1}, {"x", 0}, {"N", 0}, {" n", 0},
            {"n ", 1}, {"n+", 2}, {"n-", 2}, {"n+*2", 2}, {"+n", 0}, {"*n", 0}, {"-n", -1}, {"n--n", -1}, {"n-!n", -1},
            {"n!", 1}, {"nn", 1}, {"n1", 1}, {"1n", 1}, {"(n", 2}, {"n)", 1}, {"()", 1}, {"(", 1}, {")", 0}, {"(n)", -1},
            {"(n)n", 3}, {"(n)(n)", 3}, {"(n))", 3}, {"((n)", 4}, {"!", 1}, {"-", 1}, {"0", -1}, {"9999", -1}, {"0000", -1},
            {"12345", 4}, {"(12345)", 5}, {"n<1<2", 3}, {"n<1=2", 3}, {"n=1>2", 3}, {"(n<1)<2", -1}, {"n<(1<2)", -1},
            {"n<1&2<3", -1}, {"n<1|2<3", -1}, {"n<1&2<3<4", 7}, {"n<(1<2<3)", 6}, {"n<<1", 2}, {"n<1+2*3", -1},
            {"n==1", 2}, {"n&&1", 2}, {"n||1", 2}, {"n%2", -1}, {"n/2", -1}, {"n?1", -1}, {"n?1?2", 3}, {"n?", 2},
            {"?1", 0}, {"(n?1)", 2}, {"n?(1?2)", 4}, {";", 0}, {"n;", 2}, {"n;;n", 2}, {"n?1;", 4}, {"n?;1", 2},
            {"n;n", -1}, {"n;n?1;n", -1}, {"n?1;n?1?", 7}, {"(n;n)", 2}, {"n?1;2?3", -1}, {"n|", 2}, {"n&", 2}, {"n%", 2},
            {"!!!!!!n", -1}, {"!!!!!!!n", 6}, {"------n", -1}, {"-------n", 6}, {"((((((n))))))", -1}, {"(((((((n", 6},
            {"(((!-!1)))", -1}, {"(((!-!-1)))", 6}, {"((((((n+-1))))))", 8}, {"((((((n-1))))))", -1}, {"!(!(!(n)))", -1},
            {"!(!(!(!n)))", 6}, {"!(!(!(1+!n)))", 8}, {"!!!!!!n+!!!!!!n", -1}, {"(((((n)))))+((((((n))))))", -1},
            {"(((((n)+!n))))+!!!!!!!n", 21}, {"(!!!!!n+!!!!!n)", -1}, {"(!!!!!n+!!!!!!n)", 13}, {"!n+(((((!n)))))", -1},
            {"n?!!!!!!!1", 8}, {"\u00ff", 0}, {"n\u0080", 1}, {"n\u0000", 1}, {"n\n", 1}, {"n^1", 1}, {"n:1", 1}, {"n,1", 1},
        };
        for (Object[] text : texts) {
            fault((String) text[0], (Integer) text[1]);
        }
    }

    private static void adopting() {
        FootstepsAhead x = fourWays();
        due.is("law 2", Due.law(x, "2"), 1);
        due.is("takes 2", x.takes(0, 0), 2);
        due.is("a fault", Due.law(x, "3+"), -102);
        due.is("the law stays", x.takes(0, 0), 2);
        due.is("no text", x.law(), -100);
        due.is("the law stays", x.takes(0, 0), 2);
        x.feed('3');
        due.is("what is fed alone is no law", x.takes(0, 0), 2);
        due.is("law 3", x.law(), 1);
        due.is("takes 3", x.takes(0, 0), 3);
        due.is("a shorter law", Due.law(x, "1"), 1);
        due.is("takes 1", x.takes(0, 0), 1);
    }

    private static FootstepsAhead fourWays() {
        FootstepsAhead x = new FootstepsAhead();
        Due.walker(x, 0);
        for (int v = 1; v < 4; v++) {
            Due.way(x, 0, v);
        }
        return x;
    }

    private static void gives(String text, int want) {
        FootstepsAhead x = fourWays();
        due.is("law '" + text + "'", Due.law(x, text), 1);
        due.is("'" + text + "' gives", x.takes(0, 0), Math.floorMod(want, 4));
    }

    private static void values() {
        gives("2+3*4", 14);
        gives("(2+3)*3", 15);
        gives("0-7", -7);
        gives("-7/2", -3);
        gives("-7%4", -3);
        gives("7/-2", -3);
        gives("-(7/2)", -3);
        gives("7/0", 0);
        gives("7%0", 0);
        gives("0/0+3", 3);
        gives("7-2-3", 2);
        gives("7-(2-3)", 8);
        gives("9/2/2", 2);
        gives("9/(2/2)", 9);
        gives("7*3%5", 1);
        gives("7-2*3+1", 2);
        gives("!0+2", 3);
        gives("!5+2", 2);
        gives("!!5+2", 3);
        gives("-!0", -1);
        gives("!-3", 0);
        gives("--3", 3);
        gives("-1*3", -3);
        gives("!0*3", 3);
        gives("2|0", 1);
        gives("0|0", 0);
        gives("0|2", 1);
        gives("2&3", 1);
        gives("2&0", 0);
        gives("0&2", 0);
        gives("1|0&0", 1);
        gives("(1|0)&0", 0);
        gives("3>2", 1);
        gives("2>2", 0);
        gives("2<2", 0);
        gives("1<2", 1);
        gives("2=2", 1);
        gives("2=3", 0);
        gives("1+1=2", 1);
        gives("2=1+1", 1);
        gives("2<1|3", 1);
        gives("2&3=2", 0);
        gives("-1<0", 1);
        gives("0001+0002", 3);
        gives("9999*9999*9999", 9999 * 9999 * 9999);
        gives("(9999*9999*9999)<0", 9999 * 9999 * 9999 < 0 ? 1 : 0);
        gives("(4096*4096*128/-1)<0", 1);
        gives("4096*4096*128%-1+2", 2);
        gives("(4096*4096*128-1)>0", 1);
        gives("--(4096*4096*128)<0", 1);
        gives("0?1;0?2;3", 3);
        gives("0?1;7?2;3", 2);
        gives("5?1;7?2;3", 1);
        gives("-5?1;7?2;3", 1);
        gives("0?1;0?2", 0);
        gives("3;1", 3);
        gives("0;1", 0);
        gives("0?3;2;1?1", 2);
        gives("1?2+1", 3);
        gives("2>1?1+1", 2);
        gives("0?1;0?1;0?1;0?1;0?1;2", 2);
        gives("7%4?7%4;1", 3);
        StringBuilder longest = new StringBuilder("-1");
        for (int i = 0; i < 59; i++) {
            longest.append(i < 58 ? "+1" : "+2");
        }
        gives(longest.toString(), 59);
        gives("(1|(1&(0<(1+(2*(3%4" + "))))))", 1);
        gives("0|1&0<0+1*(1|0&0<1+1*(0|1&0<2+1*(0|1&2<3+2*(0|0&0<1+3*(0|0&0<0+5*(3))))))", 1);
    }

    /** s, n, k, l, w and m of three walkers, each put into a value below its number of ways. */
    private static void names() {
        FootstepsAhead x = new FootstepsAhead();
        Due.walker(x, 0, 1, 0);
        Due.walker(x, 0, 1, 0);
        Due.walker(x, 0, 1, 0);
        for (int w = 0; w < 3; w++) {
            for (int v = 1; v < 4 - w % 2; v++) {
                Due.way(x, w, 2);
            }
        }
        x.mend(1, 0, 13);
        x.mend(2, 0, 22);
        x.mend(2, 1, 3);
        int[][] rows = { // by day 0: n, s, k, l, w, m of each
            {2, 6, 0, 10, 4, 0}, {2, 5, 1, 13, 3, 0}, {2, 3, 2, 22, 4, 3},
        };
        String letters = "nsklwm";
        for (int w = 0; w < 3; w++) {
            for (int i = 0; i < 6; i++) {
                for (int v = rows[w][i] - 1; v <= rows[w][i] + 1; v++) {
                    Due.law(x, letters.charAt(i) + (v < 0 ? "=-" + -v : "=" + v));
                    due.is(letters.charAt(i) + " of " + w + " is " + v, x.takes(0, w), v == rows[w][i] ? 1 : 0);
                }
            }
        }
        Due.law(x, "s");
        due.is("s by 3 ways", x.takes(0, 1), 5 % 3);
        x.mend(2, 0, 0);
        due.is("s without 2's tracks", x.takes(0, 0), 2);
        due.is("by another day", x.takes(4, 0), 0);
        FootstepsAhead y = new FootstepsAhead();
        Due.walker(y, 0, 1, 0);
        Due.walker(y, 0, 1, 0);
        Due.way(y, 0, 3);
        Due.way(y, 0, 4);
        due.is("without a text n", y.takes(0, 0), 1);
        due.is("without a text n, by one way", y.takes(0, 1), 0);
    }

    private static void drawnTexts() {
        Random draw = new Random(4711);
        for (int i = 0; i < 6000; i++) {
            String text = ModelText.drawn(draw);
            FootstepsAhead x = fourWays();
            int lead = draw.nextInt(61);
            int start = draw.nextInt(201);
            x.mend(0, 0, lead);
            x.mend(0, 1, start);
            int fault = ModelLaw.fault(text);
            due.is("drawn '" + text + "'", Due.law(x, text), fault < 0 ? 1 : -100 - fault);
            Map<Character, Integer> names = new HashMap<>();
            names.put('n', 0);
            names.put('s', 0);
            names.put('k', 0);
            names.put('l', lead);
            names.put('w', 4);
            names.put('m', start);
            int given = fault < 0 ? ModelLaw.given(text, names) : 0;
            due.is("drawn '" + text + "' gives", x.takes(0, 0), Math.floorMod(given, 4));
        }
    }
}
