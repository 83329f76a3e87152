/** Promises 25 to 31, and what the Terms say of deeds and CHANGES: each edge by the words that name it. */
public final class DeedsEdgesTest {
    private static final Due due = new Due("DeedsEdgesTest");
    private static final String NONE_HOLDS = "k=0?n;!n";

    public static void main(String[] args) {
        liveMeets();
        liveNot();
        liveBad();
        stepOfOne();
        stepWhateverHolds();
        othersByTheLatestDay();
        stepCost();
        stepCostsNothing();
        stepBad();
        stepBeforeAnyDay();
        stepOfADayThatIsOneStill();
        ledAtFirst();
        ledTells();
        ledBad();
        imageOfNothing();
        imageKeepsWhatLedTells();
        laterImage();
        backAgainAndAgain();
        backWithoutImage();
        undoLatestFirst();
        undoOfEach();
        undoNone();
        redoInOrder();
        redoNone();
        noOtherBehind();
        sameNumberIsNone();
        fortyAtMost();
        fortyWithSomeUndone();
        deedsAreNone();
        refusedChangesNothing();
        the512thCall();
        due.end();
    }

    private static FootstepsAhead twins() {
        return DaysTest.twins(); // days 1 and 4 hold
    }

    private static void led(FootstepsAhead x, int days, int meetings, int falls, int latest) {
        due.is("days lived", x.led(0), days);
        due.is("meetings", x.led(1), meetings);
        due.is("falls", x.led(2), falls);
        due.is("the latest day", x.led(3), latest);
    }

    private static void liveMeets() {
        due.on("LIVE the k-th DAY that HOLDS: how many MEET;");
        FootstepsAhead x = twins();
        due.is("live 0", x.live(0), 1);
        led(x, 1, 1, 0, 1);
        due.is("live 1", x.live(1), 1);
        led(x, 2, 2, 0, 4);
        Due.walker(x, 0);
        due.is("of three, three times two", x.live(0), 3);
        led(x, 3, 5, 0, 1);
        x.mend(0, 1, 1);
        x.mend(1, 1, 50);
        due.is("nobody meets", x.live(0), 0);
        due.is("lived", x.led(0), 4);
        due.is("no more meetings", x.led(1), 5);
    }

    private static void liveNot() {
        due.on("LIVE: how many MEET. BAD; NOT: there are not as many.");
        FootstepsAhead x = twins();
        due.is("live 2", x.live(2), -2);
        due.is("live far off", x.live(Integer.MAX_VALUE), -2);
        led(x, 0, 0, 0, -2);
        Due.law(x, NONE_HOLDS);
        due.is("live 0 of none", x.live(0), -2);
        led(x, 0, 0, 0, -2);
        FootstepsAhead y = new FootstepsAhead();
        due.is("nobody's second day", y.live(1), -2);
        due.is("nobody's day", y.live(0), 0);
        led(y, 1, 0, 0, 0);
    }

    private static void liveBad() {
        due.on("LIVE: how many MEET. BAD;");
        FootstepsAhead x = twins();
        due.is("live -1", x.live(-1), -1);
        due.is("live far below", x.live(Integer.MIN_VALUE), -1);
        led(x, 0, 0, 0, -2);
    }

    private static void stepOfOne() {
        due.on("it takes a told WAY (whatever holds), all others THE LAW's by the DAY lived latest:");
        FootstepsAhead x = twins();
        x.live(1);
        due.is("0 takes 1", x.step(0, 1), 10);
        led(x, 2, 1 + 2, 10, 5);
        FootstepsAhead y = new FootstepsAhead();
        for (int walker = 0; walker < 5; walker++) {
            Due.walker(y, 0);
            for (int way = 1; way < 4; way++) {
                Due.way(y, walker, way);
            }
        }
        Due.law(y, "3");
        y.live(0);
        for (int walker = 0; walker < 5; walker++) {
            for (int way = 0; way < 4; way++) {
                due.is("WALKER " + walker + " takes " + way, y.step(walker, way), way == 3 ? 0 : 10);
                due.is("all others take 3", y.led(3), 1023 - ((3 - way) << 2 * walker));
            }
        }
    }

    private static void stepWhateverHolds() {
        due.on("but it takes a told WAY (whatever holds)");
        FootstepsAhead x = twins();
        x.live(0);
        x.step(0, 0);
        due.is("the day lived", x.led(3), 0);
        due.is("does not hold", x.day(0, 0), 0);
        Due.law(x, NONE_HOLDS);
        due.is("none holds", x.holding(-1), 0);
        due.is("a step still", x.step(0, 1), 0);
        due.is("the day lived then", x.led(3), 1);
    }

    private static void othersByTheLatestDay() {
        due.on("all others THE LAW's by the DAY lived latest:");
        FootstepsAhead x = twins();
        x.live(1);
        x.step(0, 1);
        due.is("from 4 to", x.led(3), 5);
        x.step(0, 1);
        due.is("from 5, where 1 sees nobody, to", x.led(3), 1);
        x.step(0, 0);
        due.is("from 1, where 1 sees nobody, to", x.led(3), 0);
        x.step(1, 0);
        due.is("from 0, where 0 sees 1, to", x.led(3), 1);
        x.mend(1, 0, 0);
        x.step(1, 0);
        due.is("from 1, where 0 sees nobody any more, to", x.led(3), 0);
        Due.law(x, "1");
        x.step(1, 0);
        due.is("by another law", x.led(3), 1);
    }

    private static void stepCost() {
        due.on("what it cost (FALL, if it is not what THE LAW gives).");
        FootstepsAhead x = twins();
        x.mend(0, 2, 99);
        x.mend(1, 2, 1);
        x.live(1);
        due.is("0's fall", x.step(0, 1), 99);
        due.is("as THE LAW gives by day 5", x.step(1, 0), 0);
        due.is("1's fall by day 0", x.step(1, 0), 1);
        due.is("all falls", x.led(2), 100);
    }

    private static void stepCostsNothing() {
        due.on("what it cost (FALL, if it is not what THE LAW gives).");
        FootstepsAhead x = twins();
        x.live(1);
        due.is("as THE LAW gives", x.step(0, 0), 0);
        due.is("the same day", x.led(3), 4);
        due.is("is lived", x.led(0), 2);
        x.mend(0, 2, 0);
        due.is("not as THE LAW gives, at no cost", x.step(0, 1), 0);
        led(x, 3, 1 + 1 + 2, 0, 5);
    }

    private static void stepBad() {
        due.on("STEP: the cost. BAD; STATE:");
        FootstepsAhead x = twins();
        x.live(0);
        int[] none = {-1, 2, 4, Integer.MAX_VALUE, Integer.MIN_VALUE};
        for (int number : none) {
            due.is("walker " + number, x.step(number, 0), -1);
            due.is("way " + number, x.step(0, number), -1);
        }
        led(x, 1, 1, 0, 1);
        FootstepsAhead y = new FootstepsAhead();
        due.is("nobody, no day", y.step(0, 0), -1);
    }

    private static void stepBeforeAnyDay() {
        due.on("STATE: no DAY was lived yet, or it is no DAY any more.");
        FootstepsAhead x = twins();
        due.is("no day yet", x.step(0, 0), -5);
        due.is("no way, no day yet", x.step(0, 2), -1);
        x.live(2);
        due.is("none was lived by NOT", x.step(0, 0), -5);
        led(x, 0, 0, 0, -2);
        x.image();
        x.live(0);
        due.is("a day was", x.step(0, 1), 0);
        x.back();
        due.is("laid back to none", x.step(0, 0), -5);
    }

    /** WAYS and WALKERS only come, so a DAY lived stays one: who came later takes its first WAY by it. */
    private static void stepOfADayThatIsOneStill() {
        due.on("or it is no DAY any more.");
        FootstepsAhead x = new FootstepsAhead();
        x.live(0);
        due.is("nobody's day", x.led(3), 0);
        Due.walker(x, 0);
        Due.way(x, 0, 3);
        due.is("is one still", x.step(0, 1), 10);
        due.is("to", x.led(3), 1);
        for (int walker = 1; walker < 5; walker++) {
            Due.walker(x, 0);
            Due.way(x, walker, 1);
            Due.way(x, walker, 2);
            Due.way(x, walker, 3);
        }
        due.is("the last way of the last walker", x.step(4, 3), 10);
        due.is("to", x.led(3), 768);
    }

    private static void ledAtFirst() {
        due.on("LED: DAYS lived, meetings of all, FALLS paid, the latest DAY (NOT: none).");
        led(new FootstepsAhead(), 0, 0, 0, -2);
        led(twins(), 0, 0, 0, -2);
    }

    private static void ledTells() {
        due.on("LED: DAYS (what 0), meetings (1), FALLS (2), the latest DAY (3). BAD.");
        FootstepsAhead x = twins();
        x.live(1);
        led(x, 1, 1, 0, 4);
        x.step(0, 1);
        led(x, 2, 3, 10, 5);
        x.step(0, 1);
        led(x, 3, 4, 20, 1);
        x.live(0);
        led(x, 4, 5, 20, 1);
    }

    private static void ledBad() {
        due.on("the latest DAY (3). BAD.");
        FootstepsAhead x = twins();
        x.live(0);
        int[] none = {-1, 4, Integer.MAX_VALUE, Integer.MIN_VALUE};
        for (int what : none) {
            due.is("led " + what, x.led(what), -1);
        }
    }

    private static void imageOfNothing() {
        due.on("AN IMAGE is kept: DAYS.");
        FootstepsAhead x = twins();
        due.is("image of nothing", x.image(), 0);
        x.live(0);
        due.is("back", x.back(), 0);
        led(x, 0, 0, 0, -2);
    }

    private static void imageKeepsWhatLedTells() {
        due.on("AN IMAGE keeps what LED tells.");
        FootstepsAhead x = twins();
        x.live(1);
        x.step(0, 1);
        due.is("image", x.image(), 2);
        led(x, 2, 3, 10, 5);
        x.step(0, 1);
        x.mend(0, 0, 20);
        Due.law(x, "1");
        Due.walker(x, 3);
        due.is("back", x.back(), 2);
        led(x, 2, 3, 10, 5);
        due.is("what was mended stays", x.of(0, 0), 20);
        due.is("the law stays", x.takes(0, 0), 1);
        due.is("who came stays", x.count(0), 3);
        due.is("the change may still be undone", x.undo(), 0);
    }

    private static void laterImage() {
        due.on("AN IMAGE is kept: DAYS.");
        FootstepsAhead x = twins();
        x.live(0);
        due.is("image", x.image(), 1);
        x.live(0);
        x.live(1);
        due.is("a later one", x.image(), 3);
        x.live(0);
        due.is("back to the later one", x.back(), 3);
        due.is("its day", x.led(3), 4);
    }

    private static void backAgainAndAgain() {
        due.on("It is laid back: DAYS. STATE: there is none.");
        FootstepsAhead x = twins();
        x.live(0);
        x.image();
        for (int i = 0; i < 3; i++) {
            x.live(1);
            due.is("back", x.back(), 1);
            led(x, 1, 1, 0, 1);
        }
    }

    private static void backWithoutImage() {
        due.on("It is laid back: DAYS. STATE: there is none.");
        FootstepsAhead x = twins();
        due.is("back", x.back(), -5);
        x.live(1);
        due.is("back", x.back(), -5);
        led(x, 1, 1, 0, 4);
    }

    private static void undoLatestFirst() {
        due.on("can be UNDONE, the latest first,");
        FootstepsAhead x = twins();
        x.mend(0, 0, 20);
        x.mend(1, 0, 30);
        x.mend(0, 0, 40);
        due.is("undo", x.undo(), 2);
        due.is("0 has", x.of(0, 0), 20);
        due.is("1 has", x.of(1, 0), 30);
        due.is("undo", x.undo(), 1);
        due.is("1 has", x.of(1, 0), 10);
        due.is("undo", x.undo(), 0);
        due.is("0 has", x.of(0, 0), 10);
    }

    private static void undoOfEach() {
        due.on("CHANGES (MINUTES; LEAD, START, FALL of WALKERS;");
        FootstepsAhead x = twins();
        x.mend(21, 3, 30);
        due.is("undo minutes", x.undo(), 0);
        due.is("minutes", x.of(21, 3), 5);
        due.is("as many back", x.of(12, 3), 5);
        x.mend(1, 0, 0);
        due.is("0 sees nobody", x.takes(0, 0), 0);
        due.is("undo lead", x.undo(), 0);
        due.is("0 sees 1", x.takes(0, 0), 1);
        x.mend(1, 1, 200);
        due.is("1 is not there", x.where(0, 1, 0), -2);
        due.is("undo start", x.undo(), 0);
        due.is("1 is there", x.where(0, 1, 0), 0);
        x.mend(1, 2, 99);
        due.is("both cost", x.day(0, 1), 109);
        due.is("undo fall", x.undo(), 0);
        due.is("both cost", x.day(0, 1), 20);
    }

    private static void undoNone() {
        due.on("UNDONE: how many may still be. STATE: none.");
        FootstepsAhead x = twins();
        due.is("undo", x.undo(), -5);
        x.mend(0, 0, 11);
        x.mend(0, 0, 12);
        due.is("undo", x.undo(), 1);
        due.is("undo", x.undo(), 0);
        due.is("undo", x.undo(), -5);
        due.is("count 3", x.count(3), 0);
    }

    private static void redoInOrder() {
        due.on("and DONE AGAIN (as long as no other came behind);");
        FootstepsAhead x = twins();
        x.mend(0, 0, 20);
        x.mend(0, 0, 30);
        x.mend(12, 3, 7);
        x.undo();
        x.undo();
        x.undo();
        due.is("redo", x.redo(), 2);
        due.is("lead", x.of(0, 0), 20);
        due.is("redo", x.redo(), 1);
        due.is("lead", x.of(0, 0), 30);
        due.is("undo between", x.undo(), 1);
        due.is("lead", x.of(0, 0), 20);
        due.is("redo", x.redo(), 1);
        due.is("redo", x.redo(), 0);
        due.is("minutes", x.of(21, 3), 7);
        due.is("all may be undone", x.count(3), 3);
        FootstepsAhead y = twins();
        y.mend(1, 0, 0);
        due.is("one holds", y.holding(-1), 1);
        due.is("undo", y.undo(), 0);
        due.is("two hold", y.holding(-1), 2);
        due.is("redo", y.redo(), 0);
        due.is("one holds", y.holding(-1), 1);
    }

    private static void redoNone() {
        due.on("DONE AGAIN: how many may still be. STATE: none.");
        FootstepsAhead x = twins();
        due.is("redo", x.redo(), -5);
        x.mend(0, 0, 20);
        due.is("redo", x.redo(), -5);
        x.undo();
        due.is("redo", x.redo(), 0);
        due.is("redo", x.redo(), -5);
        due.is("lead", x.of(0, 0), 20);
    }

    private static void noOtherBehind() {
        due.on("(as long as no other came behind);");
        FootstepsAhead x = twins();
        x.mend(0, 0, 20);
        x.mend(0, 0, 30);
        x.undo();
        x.undo();
        x.mend(1, 1, 3);
        due.is("redo", x.redo(), -5);
        due.is("one may be undone", x.count(3), 1);
        due.is("undo", x.undo(), 0);
        due.is("start", x.of(1, 1), 0);
        due.is("redo of the other", x.redo(), 0);
        due.is("start", x.of(1, 1), 3);
        due.is("lead", x.of(0, 0), 10);
    }

    private static void sameNumberIsNone() {
        due.on("telling the same number is none)");
        FootstepsAhead x = twins();
        x.mend(0, 0, 10);
        x.mend(0, 1, 0);
        x.mend(0, 2, 10);
        x.mend(12, 3, 5);
        due.is("none", x.count(3), 0);
        due.is("undo", x.undo(), -5);
        x.mend(0, 0, 20);
        x.undo();
        due.is("the same number again", x.mend(0, 0, 10), 10);
        due.is("redo is still there", x.redo(), 0);
        due.is("lead", x.of(0, 0), 20);
    }

    private static void fortyAtMost() {
        due.on("40 at most are kept;");
        FootstepsAhead x = twins();
        for (int i = 1; i <= 42; i++) {
            x.mend(0, 2, 10 + i);
            due.is("may be undone", x.count(3), Math.min(i, 40));
        }
        for (int left = 39; left >= 0; left--) {
            due.is("undo", x.undo(), left);
            due.is("fall, left " + left, x.of(0, 2), 12 + left);
        }
        due.is("no more", x.undo(), -5);
        due.is("as by the second change", x.of(0, 2), 12);
        for (int left = 39; left >= 0; left--) {
            due.is("redo", x.redo(), left);
            due.is("fall, left " + left, x.of(0, 2), 52 - left);
        }
        due.is("no more", x.redo(), -5);
        due.is("as by the last", x.of(0, 2), 52);
    }

    private static void fortyWithSomeUndone() {
        due.on("40 at most are kept;");
        FootstepsAhead x = twins();
        for (int i = 1; i <= 40; i++) {
            x.mend(0, 2, 10 + i);
        }
        x.undo();
        x.undo();
        due.is("38 may be undone", x.count(3), 38);
        x.mend(1, 0, 3);
        due.is("39", x.count(3), 39);
        x.mend(1, 0, 4);
        due.is("40", x.count(3), 40);
        x.mend(1, 0, 5);
        due.is("40 still", x.count(3), 40);
        for (int left = 39; left >= 0; left--) {
            due.is("undo", x.undo(), left);
        }
        due.is("as by the first change", x.of(0, 2), 11);
        due.is("as at first", x.of(1, 0), 10);
    }

    private static void deedsAreNone() {
        due.on("deeds are none.");
        FootstepsAhead x = twins();
        x.mend(0, 0, 20);
        x.mend(0, 0, 30);
        x.undo();
        x.live(0);
        x.step(0, 0);
        x.image();
        x.back();
        Due.walker(x, 6);
        Due.way(x, 2, 7);
        Due.law(x, "n");
        due.is("one may be undone", x.count(3), 1);
        due.is("one may be done again", x.redo(), 0);
        due.is("lead", x.of(0, 0), 30);
        due.is("undo", x.undo(), 1);
        due.is("undo", x.undo(), 0);
        due.is("none is left", x.undo(), -5);
        due.is("the days lived stay", x.led(0), 2);
        due.is("the walkers stay", x.count(0), 3);
        due.is("the ways stay", x.count(1), 6);
    }

    private static FootstepsAhead lived() {
        FootstepsAhead x = twins();
        x.live(0);
        x.image();
        x.live(1);
        return x;
    }

    private static void refusedChangesNothing() {
        due.on("What is answered so changes nothing.");
        FootstepsAhead x = lived();
        FootstepsAhead y = lived();
        due.is("live BAD", x.live(-1), -1);
        due.is("live NOT", x.live(2), -2);
        due.is("step BAD", x.step(0, 2), -1);
        due.is("led BAD", x.led(4), -1);
        due.is("undo STATE", x.undo(), -5);
        due.is("redo STATE", x.redo(), -5);
        Alike.ask(due, "refused of deeds", x, y);
        x = twins();
        y = twins();
        due.is("step STATE", x.step(0, 0), -5);
        due.is("back STATE", x.back(), -5);
        Alike.ask(due, "refused without deeds", x, y);
    }

    private static void the512thCall() {
        due.on("An object is used for at most 512 calls after it has been made;");
        FootstepsAhead x = new FootstepsAhead();
        for (int call = 1; call <= 511; call++) {
            x.live(0);
        }
        due.is("the 512th call", x.led(0), 511);
        FootstepsAhead y = new FootstepsAhead();
        y.row(0, 0, 1);
        y.walker(0, 1);
        for (int call = 3; call <= 510; call++) {
            due.is("call " + call, y.mend(0, 1, call % 2), (call - 1) % 2);
        }
        due.is("call 511", y.count(3), 40);
        due.is("call 512", y.undo(), 39);
    }
}
