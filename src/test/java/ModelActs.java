import java.util.ArrayList;
import java.util.List;

/** BODIES as classes of the Java language itself, so that it finds the bodies of acts. */
final class ModelActs {
    final List<Track> bodies = new ArrayList<>();
    final List<Integer> ran = new ArrayList<>();

    interface Leads {
        int number();

        void begin(int which);

        default int leads(int x) {
            begin(1);
            return x + number();
        }
    }

    interface Tells {
        void begin(int which);

        int treads(int x);

        int reads(int x);

        default int tells(int x) {
            begin(2);
            return treads(x) - reads(1);
        }
    }

    static class Track implements Leads, Tells {
        private final int n;
        private final List<Integer> ran;

        Track(int n, List<Integer> ran) {
            this.n = n;
            this.ran = ran;
        }

        public int number() {
            return n;
        }

        public void begin(int which) {
            ran.add(which);
        }

        public int treads(int x) {
            begin(10);
            return leads(x) * 2;
        }

        public int reads(int x) {
            begin(11);
            return x ^ n;
        }
    }

    static class Near extends Track {
        Near(int n, List<Integer> ran) {
            super(n, ran);
        }

        public int leads(int x) {
            begin(20);
            return super.leads(x) + 3;
        }
    }

    static class Far extends Track {
        Far(int n, List<Integer> ran) {
            super(n, ran);
        }

        public int treads(int x) {
            begin(30);
            return -super.treads(x);
        }
    }

    static class Beside extends Far {
        Beside(int n, List<Integer> ran) {
            super(n, ran);
        }

        public int reads(int x) {
            begin(40);
            return super.reads(x) * 3;
        }

        public int treads(int x) {
            begin(41);
            return super.treads(x + 1);
        }
    }

    static class False extends Near {
        False(int n, List<Integer> ran) {
            super(n, ran);
        }

        public int tells(int x) {
            begin(50);
            return super.tells(x) ^ 5;
        }
    }

    static class Shod extends Beside {
        Shod(int n, List<Integer> ran) {
            super(n, ran);
        }

        public int reads(int x) {
            begin(60);
            return super.reads(x) - leads(2);
        }

        public int tells(int x) {
            begin(61);
            return super.tells(x) + 1;
        }
    }

    static class Danced extends Track {
        Danced(int n, List<Integer> ran) {
            super(n, ran);
        }

        public int leads(int x) {
            begin(70);
            return super.leads(x) * 2;
        }
    }

    static class Last extends Danced {
        Last(int n, List<Integer> ran) {
            super(n, ran);
        }

        public int treads(int x) {
            begin(80);
            return super.treads(x) + reads(2);
        }

        public int leads(int x) {
            begin(81);
            return super.leads(x) - 1;
        }
    }

    private static final Class<?>[] KINDS = {
        Track.class, Near.class, Far.class, Beside.class, False.class, Shod.class, Danced.class, Last.class
    };

    int body(int kind) {
        if (kind < 0 || kind > 7) {
            return -1;
        }
        int n = bodies.size();
        if (n == 50) {
            return -3;
        }
        switch (kind) {
            case 0:
                bodies.add(new Track(n, ran));
                break;
            case 1:
                bodies.add(new Near(n, ran));
                break;
            case 2:
                bodies.add(new Far(n, ran));
                break;
            case 3:
                bodies.add(new Beside(n, ran));
                break;
            case 4:
                bodies.add(new False(n, ran));
                break;
            case 5:
                bodies.add(new Shod(n, ran));
                break;
            case 6:
                bodies.add(new Danced(n, ran));
                break;
            default:
                bodies.add(new Last(n, ran));
                break;
        }
        return n;
    }

    int act(int body, int act, int x) {
        ran.clear();
        if (body < 0 || body >= bodies.size()) {
            return 0;
        }
        Track b = bodies.get(body);
        switch (act) {
            case 0:
                return b.leads(x);
            case 1:
                return b.treads(x);
            case 2:
                return b.reads(x);
            case 3:
                return b.tells(x);
            default:
                return 0;
        }
    }

    int taken(Object held, int k) {
        if (!KINDS[k].isInstance(held)) {
            return -12;
        }
        for (int kind = 0; kind < 8; kind++) {
            if (held.getClass() == KINDS[kind]) {
                return kind;
            }
        }
        return -12;
    }
}
