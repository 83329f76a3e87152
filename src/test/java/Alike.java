/** Asks two objects the same things: what was refused to one of them must have left it like the other. */
final class Alike {
    private final Due due;
    private final String call;
    private final FootstepsAhead x;
    private final FootstepsAhead y;

    private Alike(Due due, String call, FootstepsAhead x, FootstepsAhead y) {
        this.due = due;
        this.call = call + ": ";
        this.x = x;
        this.y = y;
    }

    /** Some 280 calls of each; nothing more is asked of them behind it. */
    static void ask(Due due, String call, FootstepsAhead x, FootstepsAhead y) {
        Alike both = new Alike(due, call, x, y);
        both.numbers();
        both.walkers();
        both.days();
        both.shelves();
        both.latest();
    }

    private void is(String what, long ofX, long ofY) {
        due.is(call + what, ofX, ofY);
    }

    private void numbers() {
        for (int what = 0; what <= 5; what++) {
            is("count " + what, x.count(what), y.count(what));
        }
        for (int what = 0; what <= 3; what++) {
            is("led " + what, x.led(what), y.led(what));
        }
        for (int i = 0; i < 10; i++) {
            is("trace " + i, x.trace(i), y.trace(i));
        }
        for (int from = 0; from < 8; from++) {
            for (int to = from + 1; to < 8; to++) {
                is("minutes " + from + to, x.of(10 * from + to, 3), y.of(10 * from + to, 3));
            }
        }
    }

    private void walkers() {
        for (int walker = 0; walker < 5; walker++) {
            for (int what = 0; what <= 8; what++) {
                if (what != 3) {
                    is("of " + walker + " " + what, x.of(walker, what), y.of(walker, what));
                }
            }
            for (int minute = 0; minute <= 20; minute += 5) {
                is("where " + walker + " " + minute, x.where(0, walker, minute), y.where(0, walker, minute));
            }
        }
        for (int wv = 0; wv < 44; wv++) {
            if (wv % 10 < 4) {
                is("place " + wv, x.place(wv, 0), y.place(wv, 0));
                is("place " + wv + " 1", x.place(wv, 1), y.place(wv, 1));
            }
        }
    }

    private void days() {
        for (int k = -1; k < 6; k++) {
            is("holding " + k, x.holding(k), y.holding(k));
        }
        for (int day = 0; day < 6; day++) {
            is("costs " + day, x.day(day, 1), y.day(day, 1));
            is("takes " + day, x.takes(day, 0), y.takes(day, 0));
        }
    }

    private void shelves() {
        for (int shelf = 0; shelf < 6; shelf++) {
            is("taken " + shelf, x.taken(shelf, 0), y.taken(shelf, 0));
            for (int i = 0; i < 12; i++) {
                is("element " + shelf + " " + i, x.element(shelf, i), y.element(shelf, i));
            }
            is("last element " + shelf, x.element(shelf, 59), y.element(shelf, 59));
            is("shelf " + shelf + " onto itself", x.shift(shelf, 0, shelf, 0, 1), y.shift(shelf, 0, shelf, 0, 1));
        }
    }

    /** These change both. */
    private void latest() {
        for (int i = 0; i < 3; i++) {
            is("redo", x.redo(), y.redo());
        }
        for (int i = 0; i < 4; i++) {
            is("undo", x.undo(), y.undo());
            is("lead", x.of(0, 0), y.of(0, 0));
        }
        is("back", x.back(), y.back());
        is("latest", x.led(3), y.led(3));
        is("law", x.law(), y.law());
        is("takes by it", x.takes(0, 0), y.takes(0, 0));
    }
}
