import java.util.concurrent.Callable;

/** Long runs of made-up calls, the same each time, on a house and on its naive model. */
public final class ModelTest {
    private static final int RUNS = 1200;
    // More calls on one object are not promised.
    private static final int CALLS = 512;
    private static final int LAST_LOOK = 100;
    // Of a hundred calls those below change, those above are of acts and versions.
    private static final int LOOKS_FROM = 50;
    private static final int LOOKS_END = 80;
    private static final int[] EDGES = {
        0, -1, 1, 1000, 999, 31, 32, 24, 23, Integer.MAX_VALUE, Integer.MIN_VALUE, Integer.MAX_VALUE - 3,
        2000, 3000, 4000, 5000, 6000, 7000, 8000, 1019, 2019, 3059, 4059, 5009, 6009, 7007};

    private long seed;
    private final BoardHouse house;
    private final NaiveHouse naive;
    private final Answers answers;
    private final int style;
    private final int[] made = new int[8];
    private int calls = 0;

    private ModelTest(int run, Answers answers) {
        this.seed = 77777L * run + 13;
        this.answers = answers;
        this.style = run % 5;
        int layers = below(7) - 1;
        int gap = style == 1 ? 0 : below(7) - 1;
        house = new BoardHouse(layers, gap);
        naive = new NaiveHouse(layers, gap);
    }

    public static void main(String[] args) {
        Answers answers = new Answers();
        for (int run = 0; run < RUNS && answers.wrong() == 0; run++) {
            new ModelTest(run, answers).go(run);
        }
        answers.finish("ModelTest");
    }

    private int below(int n) {
        seed = seed * 6364136223846793005L + 1442695040888963407L;
        return (int) ((seed >>> 33) % n);
    }

    private void go(int run) {
        int first = 2 + below(4);
        for (int i = 0; i < first; i++) {
            grew(1, ask("run " + run, "net", house::net, naive::net));
        }
        while (calls < CALLS - LAST_LOOK && answers.wrong() == 0) {
            String where = "run " + run + " call " + calls;
            one(where);
            if (below(2) == 0) {
                ask(where, "told", house::told, naive::told);
            }
        }
        while (calls < CALLS && answers.wrong() == 0) {
            look("run " + run + " call " + calls, LOOKS_FROM + below(LOOKS_END - LOOKS_FROM));
        }
    }

    private String ask(String where, String what, Callable<?> real, Callable<?> model) {
        calls++;
        String want = Answers.of(model);
        answers.due(where + " " + what, want, real);
        return want;
    }

    private boolean rarely() {
        return below(style == 2 ? 8 : 40) == 0;
    }

    private int any(int n) {
        return rarely() ? EDGES[below(EDGES.length)] : below(n);
    }

    private int handle(int kind) {
        if (rarely()) {
            return EDGES[below(EDGES.length)];
        }
        int k = rarely() ? 1 + below(7) : kind;
        return 1000 * k + below(Math.max(1, made[k] + (rarely() ? 2 : 0)));
    }

    private int x() {
        return any(style == 3 ? 12 : 32);
    }

    private int y() {
        return any(style == 3 ? 12 : 24);
    }

    private void grew(int kind, String answer) {
        if (answer.startsWith(String.valueOf(kind)) && answer.length() == 4) {
            made[kind]++;
        }
    }

    private void one(String where) {
        int dice = below(100);
        if (dice < LOOKS_FROM) {
            change(where, dice);
        } else if (dice < LOOKS_END) {
            look(where, dice);
        } else {
            act(where, dice);
        }
    }

    private void change(String where, int dice) {
        if (dice < 1) {
            grew(1, ask(where, "net", house::net, naive::net));
        } else if (dice < 6) {
            int w = any(5) + 1;
            int h = any(5) + 1;
            int x = x();
            int y = y();
            int side = any(2);
            grew(2, ask(where, "part", () -> house.part(w, h, x, y, side), () -> naive.part(w, h, x, y, side)));
        } else if (dice < 15) {
            int part = handle(2);
            int net = handle(1);
            int dx = any(4);
            int dy = any(4);
            grew(3, ask(where, "pad", () -> house.pad(part, net, dx, dy), () -> naive.pad(part, net, dx, dy)));
        } else if (dice < 22) {
            int net = handle(1);
            int x = x();
            int y = y();
            grew(3, ask(where, "via", () -> house.via(net, x, y), () -> naive.via(net, x, y)));
        } else if (dice < 34) {
            track(where);
        } else if (dice < 37) {
            int net = handle(1);
            int layer = any(4);
            grew(5, ask(where, "plane", () -> house.plane(net, layer), () -> naive.plane(net, layer)));
        } else if (dice < 45) {
            int part = handle(2);
            int x = x();
            int y = y();
            ask(where, "move", () -> house.move(part, x, y), () -> naive.move(part, x, y));
        } else {
            int thing = handle(2 + below(4));
            ask(where, "drop", () -> house.drop(thing), () -> naive.drop(thing));
        }
    }

    private void track(String where) {
        int net = handle(1);
        int layer = any(4);
        int x0 = x();
        int y0 = y();
        boolean along = below(2) == 0;
        int x1 = along || rarely() ? x() : x0;
        int y1 = along && !rarely() ? y0 : y();
        int y2 = along || x1 == x0 || rarely() ? y1 : y0;
        grew(4, ask(where, "track", () -> house.track(net, layer, x0, y0, x1, y2),
                () -> naive.track(net, layer, x0, y0, x1, y2)));
    }

    private void look(String where, int dice) {
        if (dice < 52) {
            int v = any(style == 1 ? 2 : 5);
            ask(where, "gap", () -> house.gap(v), () -> naive.gap(v));
        } else if (dice < 58) {
            int net = handle(1);
            ask(where, "islands", () -> house.islands(net), () -> naive.islands(net));
        } else if (dice < 60) {
            ask(where, "check", house::check, naive::check);
        } else if (dice < 63) {
            int k = any(20);
            int which = any(2);
            ask(where, "near", () -> house.near(k, which), () -> naive.pairEnd(k, which));
        } else if (dice < 67) {
            int plane = handle(5);
            ask(where, "filled", () -> house.filled(plane), () -> naive.filled(plane));
        } else if (dice < 78) {
            int thing = handle(2 + below(4));
            int what = any(6);
            ask(where, "at", () -> house.at(thing, what), () -> naive.at(thing, what));
        } else {
            int kind = any(7);
            ask(where, "count", () -> house.count(kind), () -> naive.count(kind));
        }
    }

    private void act(String where, int dice) {
        // Few acts and versions can be made, so most runs spread them out.
        if (dice < 84 && below(4) == 0) {
            boolean whole = below(3) == 0;
            int x0 = whole ? 0 : x();
            int y0 = whole ? 0 : y();
            int x1 = whole ? 31 : x0 + any(20);
            int y1 = whole ? 23 : y0 + any(20);
            grew(6, ask(where, "begin", () -> house.begin(x0, y0, x1, y1), () -> naive.begin(x0, y0, x1, y1)));
        } else if (dice < 90) {
            int deed = below(5) == 0 ? 0 : latest(6);
            ask(where, "work", () -> house.work(deed), () -> naive.work(deed));
        } else if (dice < 94) {
            int deed = latest(6);
            boolean keep = below(3) == 0;
            ask(where, "end", () -> house.end(deed, keep), () -> naive.end(deed, keep));
        } else if (dice < 96) {
            grew(7, ask(where, "version", house::version, naive::version));
        } else {
            int version = handle(7);
            ask(where, "back", () -> house.back(version), () -> naive.back(version));
        }
    }

    private int latest(int kind) {
        return rarely() || made[kind] == 0 ? handle(kind) : 1000 * kind + made[kind] - 1 - below(Math.min(3, made[kind]));
    }
}
