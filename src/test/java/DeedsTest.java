/** Promises 25 to 31: live, step, led, image, back, undo, redo. */
public final class DeedsTest {
    private static final Due due = new Due("DeedsTest");

    public static void main(String[] args) {
        living();
        stepping();
        images();
        undoing();
        fortyAtMost();
        due.end();
    }

    private static void led(FootstepsAhead x, String call, int... want) {
        for (int what = 0; what < 4; what++) {
            due.is(call + ": led " + what, x.led(what), want[what]);
        }
    }

    private static void living() {
        FootstepsAhead x = DaysTest.twins(); // days 1 and 4 hold
        due.is("live 2", x.live(2), -2);
        due.is("live -1", x.live(-1), -1);
        led(x, "not lived", 0, 0, 0, -2);
        due.is("led -1", x.led(-1), -1);
        due.is("led 4", x.led(4), -1);
        due.is("live 0", x.live(0), 1);
        led(x, "lived once", 1, 1, 0, 1);
        due.is("live 1", x.live(1), 1);
        led(x, "lived twice", 2, 2, 0, 4);
        Due.walker(x, 0);
        due.is("live with a third", x.live(0), 3);
        led(x, "lived thrice", 3, 5, 0, 1);
        x.mend(1, 1, 7);
        x.mend(2, 1, 100);
        due.is("nobody meets", x.live(0), 0);
        Due.law(x, "k=0?n;!n");
        int days = x.holding(-1);
        due.is("as many as hold", x.live(days), -2);
        led(x, "lived four times", 4, 5, 0, x.led(3));
    }

    private static void stepping() {
        FootstepsAhead x = DaysTest.twins();
        x.mend(0, 2, 10);
        x.mend(1, 2, 33);
        due.is("no day yet", x.step(0, 0), -5);
        due.is("no way, no day yet", x.step(0, 2), -1);
        x.live(1);
        due.is("nobody", x.step(2, 0), -1);
        due.is("nobody below", x.step(-1, 0), -1);
        due.is("no way 2", x.step(0, 2), -1);
        due.is("no way -1", x.step(0, -1), -1);
        led(x, "so far", 1, 1, 0, 4);
        due.is("as the law gives", x.step(0, 0), 0);
        led(x, "as the law gives", 2, 2, 0, 4);
        due.is("beside", x.step(0, 1), 10);
        led(x, "beside", 3, 4, 10, 5);
        due.is("as the law gives by the latest day", x.step(1, 0), 0);
        led(x, "all others as well", 4, 7, 10, 0);
        due.is("beside by the latest day", x.step(1, 0), 33);
        led(x, "the other as the law gives", 5, 8, 43, 1);
        due.is("still a day", x.step(1, 0), 0);
        Due.way(x, 1, 3);
        due.is("by a way that came later", x.step(1, 2), 33);
        led(x, "by a way that came later", 7, 9, 76, 9);
        Due.walker(x, 5);
        due.is("a walker that came later", x.step(2, 0), 0);
        led(x, "both see none, or one", 8, x.led(1), 76, x.led(3));
        FootstepsAhead y = new FootstepsAhead();
        y.live(0);
        due.is("nobody, a day lived", y.step(0, 0), -1);
        Due.walker(y, 1);
        Due.way(y, 0, 2);
        due.is("the day of nobody is a day yet", y.step(0, 1), 10);
        led(y, "it comes from day 0", 2, 0, 10, 1);
    }

    private static void images() {
        FootstepsAhead x = DaysTest.twins();
        due.is("no image", x.back(), -5);
        due.is("image of nothing", x.image(), 0);
        x.live(1);
        x.step(0, 1);
        led(x, "lived", 2, 3, 10, 5);
        due.is("back to nothing", x.back(), 0);
        led(x, "back to nothing", 0, 0, 0, -2);
        due.is("no day lived", x.step(0, 1), -5);
        x.live(1);
        x.step(0, 1);
        due.is("image", x.image(), 2);
        x.live(0);
        x.mend(0, 0, 20);
        led(x, "lived on", 3, 4, 10, x.led(3));
        due.is("back", x.back(), 2);
        led(x, "back", 2, 3, 10, 5);
        due.is("what was mended stays", x.of(0, 0), 20);
        x.live(0);
        due.is("back again", x.back(), 2);
        due.is("a newer image", x.image(), 2);
        x.step(1, 0);
        due.is("a yet newer image", x.image(), 3);
        x.live(0);
        due.is("back to the newest", x.back(), 3);
        led(x, "back to the newest", 3, 6, 10, 0);
    }

    private static void undoing() {
        FootstepsAhead x = DaysTest.twins();
        due.is("nothing to undo", x.undo(), -5);
        due.is("nothing to redo", x.redo(), -5);
        x.mend(0, 0, 20);
        x.mend(1, 1, 30);
        x.mend(1, 2, 40);
        x.mend(12, 3, 7);
        due.is("count 3", x.count(3), 4);
        due.is("undo minutes", x.undo(), 3);
        due.is("minutes", x.of(12, 3), 5);
        due.is("minutes back", x.of(21, 3), 5);
        due.is("undo fall", x.undo(), 2);
        due.is("fall", x.of(1, 2), 10);
        due.is("undo start", x.undo(), 1);
        due.is("start", x.of(1, 1), 0);
        due.is("where it is", x.where(0, 1, 0), 0);
        due.is("undo lead", x.undo(), 0);
        due.is("lead", x.of(0, 0), 10);
        due.is("no more", x.undo(), -5);
        due.is("redo lead", x.redo(), 3);
        due.is("lead again", x.of(0, 0), 20);
        due.is("redo start", x.redo(), 2);
        due.is("start again", x.of(1, 1), 30);
        due.is("where it is then", x.where(0, 1, 30), 0);
        due.is("the same number is no change", x.mend(0, 0, 20), 20);
        due.is("BAD is no change", x.mend(0, 0, 61), -1);
        Due.walker(x, 1);
        Due.way(x, 2, 1);
        Due.law(x, "0");
        x.live(0);
        x.step(0, 1);
        x.image();
        x.back();
        due.is("none of these is a change", x.redo(), 1);
        due.is("fall again", x.of(1, 2), 40);
        due.is("deeds stay", x.led(0), 2);
        due.is("another change", x.mend(2, 0, 1), 10);
        due.is("nothing to redo then", x.redo(), -5);
        due.is("count 3 then", x.count(3), 4);
        due.is("undo it", x.undo(), 3);
        due.is("undo the one before", x.undo(), 2);
        due.is("redo", x.redo(), 1);
        due.is("redo the last", x.redo(), 0);
        due.is("nothing more to redo", x.redo(), -5);
    }

    private static void fortyAtMost() {
        FootstepsAhead x = DaysTest.twins();
        for (int i = 1; i <= 45; i++) {
            due.is("mend " + i, x.mend(0, 2, i + 10), i + 9);
            due.is("kept " + i, x.count(3), Math.min(i, 40));
        }
        for (int i = 39; i >= 0; i--) {
            due.is("undo to " + i, x.undo(), i);
            due.is("fall at " + i, x.of(0, 2), 15 + i);
        }
        due.is("no more", x.undo(), -5);
        due.is("fall stays", x.of(0, 2), 15);
        for (int i = 39; i >= 0; i--) {
            due.is("redo to " + i, x.redo(), i);
            due.is("fall again at " + i, x.of(0, 2), 55 - i);
        }
        due.is("nothing more", x.redo(), -5);
        x.undo();
        x.undo();
        x.mend(1, 0, 3);
        due.is("kept then", x.count(3), 39);
        x.mend(1, 0, 4);
        x.mend(1, 0, 5);
        due.is("40 again", x.count(3), 40);
    }
}
