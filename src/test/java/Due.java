/** Tallies answers that are not the ones due, and makes what tests need again and again. */
final class Due {
    private final String name;
    private int asked;
    private int wrong;

    Due(String name) {
        this.name = name;
    }

    void is(String call, long got, long want) {
        asked++;
        if (got != want) {
            wrong++;
            if (wrong <= 40) {
                System.out.println(name + ": " + call + " answered " + got + ", due is " + want);
            }
        }
    }

    int wrong() {
        return wrong;
    }

    void end() {
        System.out.println(name + ": " + asked + " answers, " + wrong + " not as due");
        if (wrong != 0) {
            System.exit(1);
        }
    }

    /** A ROW of a sort with these elements on a SHELF. */
    static void row(FootstepsAhead x, int shelf, int sort, int... elements) {
        x.row(shelf, sort, elements.length);
        for (int i = 0; i < elements.length; i++) {
            x.put(shelf, i, elements[i]);
        }
    }

    /** A WALKER with these PLACES, by way of SHELF 5. */
    static int walker(FootstepsAhead x, int... places) {
        row(x, 5, 0, places);
        return x.walker(5, places.length);
    }

    /** A further WAY with these PLACES, by way of SHELF 5. */
    static int way(FootstepsAhead x, int walker, int... places) {
        row(x, 5, 0, places);
        return x.way(walker, 5, places.length);
    }

    static int law(FootstepsAhead x, String text) {
        for (int i = 0; i < text.length(); i++) {
            x.feed(text.charAt(i));
        }
        return x.law();
    }
}
