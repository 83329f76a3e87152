/** Promises 7 and 8, and what the Terms say of THE LAW: each edge by the words that name it. */
public final class LawEdgesTest {
    private static final Due due = new Due("LawEdgesTest");

    public static void main(String[] args) {
        bytes();
        fullTape();
        longestText();
        lawAndTape();
        faultKeepsTheLaw();
        linesOneOrMore();
        lineOfTwo();
        manyOr();
        manyAnd();
        oneComparison();
        manySums();
        manyProducts();
        digits();
        operands();
        blanks();
        sixOpen();
        openOnlyWhileOpen();
        faultOfTheFirstByte();
        faultOfTooEarlyAnEnd();
        wraps();
        towardZero();
        byZero();
        truths();
        allIsWorkedOut();
        precedence();
        firstLineThatCounts();
        noneCounts();
        remainder();
        nameN();
        nameS();
        nameK();
        nameL();
        nameW();
        nameM();
        seesAtItsStart();
        seesInItsFirstWaysFirstPlace();
        seesOthersAlone();
        withoutText();
        refusedChangesNothing();
        due.end();
    }

    private static FootstepsAhead fourWays() {
        FootstepsAhead x = new FootstepsAhead();
        Due.walker(x, 0);
        for (int way = 1; way < 4; way++) {
            Due.way(x, 0, way);
        }
        return x;
    }

    private static void sound(String text) {
        due.is("law '" + text + "'", Due.law(new FootstepsAhead(), text), 1);
    }

    private static void fault(String text, int place) {
        due.is("law '" + text + "'", Due.law(new FootstepsAhead(), text), -100 - place);
    }

    /** The remainder by 4, for a walker that sees nobody. */
    private static void gives(String text, int want) {
        FootstepsAhead x = fourWays();
        due.is("law '" + text + "'", Due.law(x, text), 1);
        due.is("'" + text + "' gives", x.takes(0, 0), want);
    }

    private static void bytes() {
        due.on("A byte (0 .. 255) comes to THE TAPE: how many it has.");
        FootstepsAhead x = new FootstepsAhead();
        due.is("-1", x.feed(-1), -1);
        due.is("256", x.feed(256), -1);
        due.is("far off", x.feed(Integer.MAX_VALUE), -1);
        due.is("far below", x.feed(Integer.MIN_VALUE), -1);
        due.is("none came", x.count(2), 0);
        due.is("0", x.feed(0), 1);
        due.is("255", x.feed(255), 2);
        due.is("two came", x.count(2), 2);
    }

    private static void fullTape() {
        due.on("BAD, FULL (120).");
        FootstepsAhead x = new FootstepsAhead();
        for (int i = 1; i <= 120; i++) {
            due.is("byte " + i, x.feed('n'), i);
        }
        due.is("byte 121", x.feed('n'), -3);
        due.is("no byte, the tape is full", x.feed(256), -1);
        due.is("no byte, the tape is full", x.feed(-1), -1);
        due.is("120 stay", x.count(2), 120);
    }

    private static String sums(String first, int more) {
        StringBuilder text = new StringBuilder(first);
        for (int i = 0; i < more; i++) {
            text.append("+1");
        }
        return text.toString();
    }

    private static void longestText() {
        due.on("THE LAW is a TEXT by THE TAPE (at most 120 bytes):");
        FootstepsAhead x = fourWays();
        due.is("120 bytes", Due.law(x, sums("10", 59)), 1);
        due.is("10 and 59 ones", x.takes(0, 0), 69 % 4);
        due.is("120 bytes, each of which counts", Due.law(x, "--1" + "+-1".repeat(39)), 1);
        due.is("1 less 39", x.takes(0, 0), Math.floorMod(1 - 39, 4));
        due.is("120 bytes of lines", Due.law(x, "!1;" + "!1;".repeat(38) + "--3"), 1);
        due.is("the first", x.takes(0, 0), 0);
        due.is("120 bytes, the last line counts", Due.law(x, "0?1;".repeat(29) + "0+-1"), 1);
        due.is("-1", x.takes(0, 0), 3);
        due.is("119 bytes", Due.law(x, sums("1", 59)), 1);
        due.is("1 and 59 ones", x.takes(0, 0), 60 % 4);
        due.is("120 bytes that end too early", Due.law(x, sums("1", 59) + "+"), -220);
        due.is("120 bytes with a fault in the last", Due.law(x, sums("1", 59) + "n"), -219);
    }

    private static void lawAndTape() {
        due.on("THE TAPE becomes THE LAW: 1; -100 less its FAULT; THE TAPE is empty then.");
        FootstepsAhead x = fourWays();
        x.feed('3');
        due.is("no law before law()", x.takes(0, 0), 0);
        due.is("law", x.law(), 1);
        due.is("law 3", x.takes(0, 0), 3);
        due.is("the tape is empty", x.count(2), 0);
        due.is("the first byte again", x.feed('2'), 1);
        due.is("law", x.law(), 1);
        due.is("law 2", x.takes(0, 0), 2);
        due.is("a fault at 0", Due.law(x, "+"), -100);
        due.is("the tape is empty then, too", x.count(2), 0);
        due.is("the first byte again", x.feed('1'), 1);
        due.is("law", x.law(), 1);
        due.is("law 1", x.takes(0, 0), 1);
    }

    private static void faultKeepsTheLaw() {
        due.on("-100 less its FAULT;");
        FootstepsAhead x = fourWays();
        Due.law(x, "3");
        due.is("a fault", Due.law(x, "1;2+"), -104);
        due.is("as before", x.takes(0, 0), 3);
        due.is("an empty tape", x.law(), -100);
        due.is("as before", x.takes(0, 0), 3);
    }

    private static void linesOneOrMore() {
        due.on("LINES, one or more, parted by ; .");
        fault("", 0);
        fault(";", 0);
        fault(";1", 0);
        fault("1;", 2);
        fault("1;;1", 2);
        sound("1");
        sound("1;1");
        StringBuilder most = new StringBuilder("1");
        for (int i = 0; i < 59; i++) {
            most.append(";1");
        }
        sound(most.toString());
        fault(most + ";", 120);
        FootstepsAhead x = fourWays();
        due.is("60 lines", Due.law(x, most.toString().replace("1;", "0;").replaceAll("1$", "3")), 1);
        due.is("the first of them", x.takes(0, 0), 0);
    }

    private static void lineOfTwo() {
        due.on("LINE: E, or E ? E (what counts if the first is not 0).");
        gives("1?2", 2);
        gives("-1?2", 2);
        gives("0?2", 0);
        gives("1?0|2", 1);
        gives("0|1?3|0;2", 1);
        gives("0&1?3;2&0", 0);
        fault("?2", 0);
        fault("1?", 2);
        fault("1?2?3", 3);
        fault("1?;2", 2);
        fault("(1?2)", 2);
        fault("1?(2?3)", 4);
    }

    private static void manyOr() {
        due.on("E = A { | A }.");
        gives("0|0|3", 1);
        gives("0|0|0", 0);
        fault("|1", 0);
        fault("1|", 2);
        fault("1||1", 2);
    }

    private static void manyAnd() {
        due.on("A = B { & B }.");
        gives("1&2&3", 1);
        gives("1&2&0", 0);
        fault("&1", 0);
        fault("1&", 2);
        fault("1&&1", 2);
    }

    private static void oneComparison() {
        due.on("B = S, or S < S, S = S, S > S.");
        sound("1<2");
        sound("1=2");
        sound("1>2");
        fault("1<2<3", 3);
        fault("1=2=3", 3);
        fault("1>2>3", 3);
        fault("1<2=3", 3);
        fault("1=2>3", 3);
        fault("1<=2", 2);
        fault("1==2", 2);
        fault("<1", 0);
        fault("1>", 2);
        sound("(1<2)<3");
        sound("1<(2<3)");
        sound("1<2&2<3|3<4");
        fault("1<2&2<3<4", 7);
    }

    private static void manySums() {
        due.on("S = P { + P, - P }.");
        gives("1+2-3+2", 2);
        gives("7-3-2", 2);
        fault("+1", 0);
        fault("1+", 2);
        fault("1-", 2);
        fault("1++1", 2);
        fault("1-+1", 2);
        gives("1--1", 2);
    }

    private static void manyProducts() {
        due.on("P = O { * O, / O, % O }.");
        gives("9/3/2", 1);
        gives("7*3%5", 1);
        gives("7%5*3", 6 % 4);
        gives("7/2*2", 6 % 4);
        fault("*1", 0);
        fault("/1", 0);
        fault("%1", 0);
        fault("1*", 2);
        fault("1/", 2);
        fault("1%", 2);
        fault("1**1", 2);
        gives("6*-1", 2);
    }

    private static void digits() {
        due.on("O = a number (1 to 4 digits), a NAME, ! O, - O, ( E ).");
        gives("3", 3);
        gives("0003", 3);
        gives("9999", 9999 % 4);
        gives("0000", 0);
        fault("00003", 4);
        fault("10000", 4);
        fault("1+12345", 6);
        fault("(99999)", 5);
        gives("9999-9998", 1);
        fault("n1", 1);
        fault("1n", 1);
    }

    private static void operands() {
        due.on("a NAME, ! O, - O, ( E ).");
        String names = "nsklwm";
        for (int i = 0; i < 256; i++) {
            String letter = String.valueOf((char) i);
            boolean alone = names.indexOf(i) >= 0 || (i >= '0' && i <= '9');
            boolean opens = i == '!' || i == '-' || i == '(';
            due.is("law by byte " + i, Due.law(new FootstepsAhead(), letter), alone ? 1 : opens ? -101 : -100);
        }
        gives("!0", 1);
        gives("!3", 0);
        gives("!!3", 1);
        gives("-3", 1);
        gives("-(-3)", 3);
        gives("(3)", 3);
        fault("()", 1);
        fault("(1", 2);
        fault("(1))", 3);
        fault("1!", 1);
        fault("(1)(1)", 3);
        fault("nn", 1);
    }

    private static void blanks() {
        due.on("No blanks.");
        fault(" 1", 0);
        fault("1 ", 1);
        fault("1 +1", 1);
        fault("1+ 1", 2);
        fault("1; 1", 2);
        fault("1\t", 1);
        fault("1\n", 1);
    }

    private static void sixOpen() {
        due.on("At most 6 of ( ! - ahead of an O are open at once.");
        sound("((((((1))))))");
        fault("(((((((1)))))))", 6);
        sound("!!!!!!1");
        fault("!!!!!!!1", 6);
        sound("------1");
        fault("-------1", 6);
        sound("(!-(!-1))");
        fault("(!-(!-(1)))", 6);
        fault("(!-(!-!1))", 6);
        fault("(!-(!--1))", 6);
    }

    private static void openOnlyWhileOpen() {
        due.on("are open at once.");
        sound("!!!!!!1+!!!!!!1");
        sound("((((((1))))))+((((((1))))))");
        sound("(((((-1+-1)))))");
        fault("(((((-1+--1)))))", 9);
        sound("((((((1-1))))))");
        fault("((((((1+-1))))))", 8);
        sound("------1-1");
        sound("1-------1");
        fault("1--------1", 8);
        sound("!!!!!!1;!!!!!!1?!!!!!!1");
    }

    private static void faultOfTheFirstByte() {
        due.on("FAULT: the place (from 0) of the first byte with which no TEXT goes on;");
        fault("x", 0);
        fault("1x", 1);
        fault("1+x", 2);
        fault("1+1;x", 4);
        fault("1x2x", 1);
        fault("1)", 1);
        fault("(1+2;3)", 4);
        fault("((1)", 4);
        fault("\u00ff", 0);
        fault("1\u0000", 1);
    }

    private static void faultOfTooEarlyAnEnd() {
        due.on("the length, if it ends too early.");
        fault("", 0);
        fault("(", 1);
        fault("!", 1);
        fault("-", 1);
        fault("1+", 2);
        fault("((1)", 4);
        fault("1?", 2);
        fault("1;2;", 4);
        fault("((((((", 6);
    }

    private static void wraps() {
        due.on("Ints that wrap;");
        gives("(8192*8192*32)<0", 1);
        gives("(8192*8192*32-1)>0", 1);
        gives("8192*8192*64=0", 1);
        gives("-(8192*8192*32)<0", 1);
        gives("(8192*8192*32-1+1)<0", 1);
        gives("9999*9999*9999=-(-9999*9999*9999)", 1);
        gives("(8192*8192*32)/-1<0", 1);
        gives("(8192*8192*32)%-1=0", 1);
    }

    private static void towardZero() {
        due.on("/ and % toward 0,");
        gives("7/2", 3);
        gives("-7/2=-3", 1);
        gives("7/-2=-3", 1);
        gives("-7/-2", 3);
        gives("7%4", 3);
        gives("-7%4=-3", 1);
        gives("7%-4", 3);
        gives("-7%-4=-3", 1);
        gives("1/2", 0);
        gives("-1/2", 0);
    }

    private static void byZero() {
        due.on("by 0 they give 0;");
        gives("7/0", 0);
        gives("7%0", 0);
        gives("0/0", 0);
        gives("-7/0", 0);
        gives("-7%0", 0);
        gives("7/(1-1)+2", 2);
        gives("7%n+3", 3);
    }

    private static void truths() {
        due.on("| & < = > ! give 1, 0;");
        String[] ones = {"2|0", "0|2", "2|2", "-1|0", "2&3", "-1&-1", "1<2", "-2<-1", "2=2", "2>1", "!0"};
        for (String text : ones) {
            gives(text, 1);
        }
        String[] zeros = {"0|0", "0&2", "2&0", "0&0", "2<2", "3<2", "2=3", "2>2", "2>3", "!2", "!-1"};
        for (String text : zeros) {
            gives(text, 0);
        }
    }

    private static void allIsWorkedOut() {
        due.on("all is worked out.");
        gives("1|7/0", 1);
        gives("0&7%0", 0);
        gives("0&1|1", 1);
        gives("1|0?3;2", 3);
        gives("0&1?3;2", 2);
    }

    private static void precedence() {
        due.on("E = A { | A }. A = B { & B }. B = S, or S < S, S = S, S > S. S = P { + P, - P }.");
        gives("1|0&0", 1);
        gives("(1|0)&0", 0);
        gives("2=2&3", 1);
        gives("1+1=2", 1);
        gives("1+2*3", 7 % 4);
        gives("(1+2)*3", 9 % 4);
        gives("2*3+1", 7 % 4);
        gives("2*(3+1)", 0);
        gives("7-4/2", 5 % 4);
        gives("(7-4)/2", 1);
        gives("3-7%4", 0);
        gives("9-7%4-3", 3);
        gives("!0+2", 3);
        gives("-1+3", 2);
        gives("!(0+2)", 0);
    }

    private static void firstLineThatCounts() {
        due.on("The first LINE without a first E, or whose first E is not 0, counts;");
        gives("3;2", 3);
        gives("0;2", 0);
        gives("0?3;2", 2);
        gives("0?3;1?2;1", 2);
        gives("0?3;0?2;1", 1);
        gives("1?3;1?2;1", 3);
        gives("1?0;3", 0);
        gives("-1?3;2", 3);
    }

    private static void noneCounts() {
        due.on("counts; none: 0.");
        gives("0?3", 0);
        gives("0?3;0?2;n?1", 0);
    }

    private static void remainder() {
        due.on("by w (the remainder from 0 on)");
        gives("4", 0);
        gives("7", 3);
        gives("-1", 3);
        gives("-4", 0);
        gives("-5", 3);
        gives("8192*8192*32", 0);
        gives("8192*8192*32+1", 1);
        gives("8192*8192*32-1", 3);
        FootstepsAhead x = new FootstepsAhead();
        Due.walker(x, 0);
        Due.law(x, "7");
        due.is("by one way", x.takes(0, 0), 0);
        Due.way(x, 0, 1);
        due.is("by two", x.takes(0, 0), 1);
        Due.way(x, 0, 2);
        due.is("by three", x.takes(0, 0), 1);
        Due.law(x, "-1");
        due.is("-1 by three", x.takes(0, 0), 2);
    }

    /** Five walkers that come back to where all start; WALKER 0 has four ways. */
    private static FootstepsAhead crowd() {
        FootstepsAhead x = new FootstepsAhead();
        for (int walker = 0; walker < 5; walker++) {
            Due.walker(x, 0, 1, 0);
        }
        for (int way = 1; way < 4; way++) {
            Due.way(x, 0, 2);
        }
        return x;
    }

    /** Whether THE LAW's name is just this for a walker with more ways than one. */
    private static void named(FootstepsAhead x, String name, int walker, int value) {
        for (int v = value - 1; v <= value + 1; v++) {
            Due.law(x, name + (v < 0 ? "=-" + -v : "=" + v));
            due.is(name + " of " + walker + " is " + v, x.takes(0, walker), v == value ? 1 : 0);
        }
    }

    private static void nameN() {
        due.on("NAMES: n how many other WALKERS' TRACKS it SEES,");
        FootstepsAhead x = crowd();
        named(x, "n", 0, 4);
        x.mend(3, 0, 9);
        named(x, "n", 0, 3);
        named(fourWays(), "n", 0, 0);
    }

    private static void nameS() {
        due.on("s which (bits of WALKERS),");
        FootstepsAhead x = crowd();
        named(x, "s", 0, 30);
        x.mend(3, 0, 9);
        named(x, "s", 0, 22);
        Due.way(x, 4, 2);
        named(x, "s", 4, 7);
        named(fourWays(), "s", 0, 0);
    }

    private static void nameK() {
        due.on("k its number,");
        FootstepsAhead x = crowd();
        named(x, "k", 0, 0);
        Due.way(x, 4, 2);
        named(x, "k", 4, 4);
    }

    private static void nameL() {
        due.on("l its LEAD,");
        FootstepsAhead x = crowd();
        named(x, "l", 0, 10);
        x.mend(0, 0, 60);
        named(x, "l", 0, 60);
        x.mend(0, 0, 0);
        named(x, "l", 0, 0);
    }

    private static void nameW() {
        due.on("w how many WAYS it has,");
        FootstepsAhead x = crowd();
        named(x, "w", 0, 4);
        Due.way(x, 4, 2);
        named(x, "w", 4, 2);
    }

    private static void nameM() {
        due.on("m its START.");
        FootstepsAhead x = crowd();
        named(x, "m", 0, 0);
        x.mend(0, 1, 200);
        named(x, "m", 0, 200);
    }

    private static void seesAtItsStart() {
        due.on("as it SEES in the first PLACE of its first WAY in the minute START the TRACKS of others.");
        FootstepsAhead x = new FootstepsAhead();
        Due.walker(x, 3);
        Due.way(x, 0, 4);
        Due.walker(x, 3);
        x.mend(1, 1, 100);
        x.mend(1, 0, 20);
        int[][] rows = {{79, 0}, {80, 1}, {99, 1}, {100, 0}, {101, 0}};
        for (int[] row : rows) {
            x.mend(0, 1, row[0]);
            due.is("starts in " + row[0], x.takes(0, 0), row[1]);
        }
    }

    private static void seesInItsFirstWaysFirstPlace() {
        due.on("in the first PLACE of its first WAY");
        FootstepsAhead x = new FootstepsAhead();
        Due.walker(x, 3, 5);
        Due.way(x, 0, 4, 3);
        Due.walker(x, 4, 4);
        Due.way(x, 1, 4, 3);
        due.is("nobody comes to 3", x.takes(1, 0), 0);
        due.is("1 comes to 3", x.takes(4, 0), 1);
        due.is("and by its own second way, too", x.takes(5, 0), 1);
    }

    private static void seesOthersAlone() {
        due.on("the TRACKS of others.");
        FootstepsAhead x = new FootstepsAhead();
        Due.walker(x, 3, 4, 3);
        Due.way(x, 0, 3, 3);
        due.is("its tracks are there", x.sees(0, 3, 0), 1);
        due.is("but are not its own sight", x.takes(0, 0), 0);
        Due.law(x, "s");
        due.is("nor among the bits", x.takes(0, 0), 0);
        Due.walker(x, 3, 4, 3);
        due.is("another's are", x.takes(0, 0), 0);
        Due.law(x, "n");
        due.is("another's count", x.takes(0, 0), 1);
    }

    private static void withoutText() {
        due.on("Without a text: n.");
        FootstepsAhead x = crowd();
        due.is("sees four", x.takes(0, 0), 0);
        x.mend(1, 0, 9);
        due.is("sees three", x.takes(0, 0), 3);
        x.mend(2, 0, 9);
        due.is("sees two", x.takes(0, 0), 2);
        due.is("an empty tape is no text", x.law(), -100);
        due.is("still n", x.takes(0, 0), 2);
    }

    private static void refusedChangesNothing() {
        due.on("What is answered so changes nothing.");
        FootstepsAhead x = fourWays();
        FootstepsAhead y = fourWays();
        for (int i = 0; i < 120; i++) {
            x.feed(i % 2 == 0 ? '3' : '+');
            y.feed(i % 2 == 0 ? '3' : '+');
        }
        due.is("feed BAD", x.feed(-1), -1);
        due.is("feed BAD", x.feed(256), -1);
        due.is("feed FULL", x.feed('1'), -3);
        Alike.ask(due, "refused of the tape", x, y);
    }
}
