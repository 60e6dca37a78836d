/** For each promise of the document: ordinary inputs, the edges it names, and wrong inputs. */
public final class PromiseTest {
    private static final int MIN = Integer.MIN_VALUE;
    private static final int MAX = Integer.MAX_VALUE;
    private static final Answers a = new Answers();

    public static void main(String[] args) {
        promise1NewObject();
        promise2Net();
        promise3Part();
        promise4Pad();
        promise4PadThrows();
        promise5Via();
        promise6Track();
        promise7Plane();
        promise8Move();
        promise8MoveNear();
        promise8MoveThrows();
        promise9Drop();
        promise10Gap();
        promise11Islands();
        promise11IslandsOfPlanes();
        promise12Check();
        promise13Near();
        promise14Filled();
        promise14FilledWays();
        promise15At();
        promise16Count();
        promise17Begin();
        promise18Work();
        promise18Regions();
        promise18Sides();
        promise19End();
        promise19EndUndoes();
        promise20Version();
        promise21Back();
        promise22Told();
        a.finish("PromiseTest");
    }

    /** A house with three nets: 1000, 1001, 1002. */
    private static BoardHouse house(int layers, int gap) {
        BoardHouse b = new BoardHouse(layers, gap);
        for (int i = 0; i < 3; i++) {
            b.net();
        }
        return b;
    }

    /** Asks for a call that is to be refused, and why. */
    private static void refused(String what, BoardHouse b, int why, java.util.concurrent.Callable<?> call) {
        String got = Answers.of(call);
        a.due(what + " refused", true, () -> got.equals("-1") || got.equals("false"));
        a.due(what + " told", why, b::told);
    }

    private static void promise1NewObject() {
        a.due("1 NONE", -1, () -> BoardHouse.NONE);
        BoardHouse b = new BoardHouse(2, 3);
        for (int kind = 2; kind <= 5; kind++) {
            int k = kind;
            a.due("1 empty of kind " + k, 0, () -> b.count(k));
        }
        a.due("1 check", 0, b::check);
        a.due("1 told", 0, b::told);
        a.due("1 gap", 3, () -> b.gap(0));
        int[][] gaps = {{-1, 0}, {MIN, 0}, {0, 0}, {4, 4}, {5, 4}, {MAX, 4}};
        for (int[] g : gaps) {
            a.due("1 gap held " + g[0], g[1], () -> new BoardHouse(1, g[0]).gap(0));
        }
        int[][] layers = {{MIN, 1}, {0, 1}, {1, 1}, {2, 2}, {3, 3}, {4, 4}, {5, 4}, {MAX, 4}};
        for (int[] l : layers) {
            BoardHouse c = house(l[0], 0);
            a.due("1 last layer of " + l[0], 4000, () -> c.track(1000, l[1] - 1, 0, 0, 0, 0));
            a.index("1 beyond the last layer of " + l[0], () -> c.track(1000, l[1], 0, 0, 0, 0));
        }
    }

    private static void promise2Net() {
        BoardHouse b = new BoardHouse(1, 0);
        b.part(1, 1, 40, 0, 0);
        for (int i = 0; i < 20; i++) {
            a.due("2 net", 1000 + i, b::net);
        }
        a.due("2 told", 0, b::told);
        refused("2 net 21", b, 1, b::net);
        a.due("2 the last net is used", 3000, () -> b.via(1019, 0, 0));
        BoardHouse c = new BoardHouse(1, 0);
        c.begin(0, 0, 31, 23);
        a.due("2 no act bars a net", 1000, c::net);
    }

    private static void promise3Part() {
        BoardHouse b = new BoardHouse(1, 0);
        int[][] bad = {{0, 1, 0}, {9, 1, 0}, {1, 0, 0}, {1, 9, 0}, {1, 1, -1}, {1, 1, 2}, {MIN, 1, 0}, {1, MAX, 0}};
        for (int[] p : bad) {
            a.argument("3 part " + p[0] + " " + p[1] + " " + p[2], () -> b.part(p[0], p[1], 40, 0, p[2]));
        }
        int[][] out = {{-1, 0}, {0, -1}, {25, 0}, {0, 17}, {32, 24}, {MAX, 0}, {MAX - 6, 0}, {0, MAX}, {MIN, 0}, {0, MIN}};
        for (int[] p : out) {
            refused("3 part at " + p[0] + " " + p[1], b, 2, () -> b.part(8, 8, p[0], p[1], 0));
        }
        a.due("3 far corner", 2000, () -> b.part(8, 8, 24, 16, 0));
        refused("3 overlap by a cell", b, 4, () -> b.part(1, 1, 24, 16, 0));
        refused("3 overlap by the last cell", b, 4, () -> b.part(1, 1, 31, 23, 0));
        a.due("3 other side", 2001, () -> b.part(1, 1, 24, 16, 1));
        a.due("3 beside along x", 2002, () -> b.part(1, 1, 23, 16, 0));
        a.due("3 beside along y", 2003, () -> b.part(8, 1, 24, 15, 0));
        b.drop(2000);
        a.due("3 where one was dropped", 2004, () -> b.part(1, 1, 31, 23, 0));
        for (int i = 5; i < 20; i++) {
            b.part(1, 1, i, 0, 0);
        }
        a.due("3 twenty", 19, () -> b.count(2));
        b.net();
        a.due("3 a pad of the last one", 3000, () -> b.pad(2019, 1000, 0, 0));
        a.due("3 the last one", 19, () -> b.at(2019, 1));
        a.due("3 is no pad", -1, () -> b.at(2019, 4));
        refused("3 full ahead of outside", b, 1, () -> b.part(1, 1, 40, 0, 0));
        BoardHouse c = new BoardHouse(1, 0);
        c.part(1, 1, 0, 0, 0);
        c.begin(0, 0, 3, 3);
        refused("3 barred ahead of overlap", c, 3, () -> c.part(1, 1, 0, 0, 0));
        refused("3 outside ahead of barred", c, 2, () -> c.part(2, 2, -1, 0, 0));
    }

    private static void promise4Pad() {
        BoardHouse b = house(2, 1);
        b.part(3, 2, 10, 10, 0);
        a.due("4 pad", 3000, () -> b.pad(2000, 1000, 0, 0));
        a.due("4 its x", 10, () -> b.at(3000, 1));
        a.due("4 its y", 10, () -> b.at(3000, 2));
        refused("4 clash in its own part", b, 5, () -> b.pad(2000, 1001, 1, 1));
        a.due("4 same net, same cell", 3001, () -> b.pad(2000, 1000, 0, 0));
        a.due("4 last cell", 3002, () -> b.pad(2000, 1001, 2, 1));
        a.due("4 last cell's x", 12, () -> b.at(3002, 1));
        int[][] out = {{3, 0}, {0, 2}, {-1, 0}, {0, -1}, {MAX, 0}, {0, MIN}, {MIN, MIN}, {MAX, MAX}};
        for (int[] d : out) {
            refused("4 pad " + d[0] + " " + d[1], b, 2, () -> b.pad(2000, 1000, d[0], d[1]));
        }
        b.track(1002, 1, 0, 12, 9, 12);
        refused("4 clash with a track of any layer", b, 5, () -> b.pad(2000, 1001, 0, 1));
        b.begin(10, 10, 10, 11);
        refused("4 barred ahead of clash", b, 3, () -> b.pad(2000, 1001, 0, 0));
        refused("4 outside ahead of barred", b, 2, () -> b.pad(2000, 1001, 0, 2));
        a.due("4 only the pad's cell counts", 3003, () -> b.pad(2000, 1001, 2, 0));
        for (int i = 4; i < 60; i++) {
            b.via(1000, 31, 23);
        }
        refused("4 full ahead of outside", b, 1, () -> b.pad(2000, 1000, 9, 9));
    }

    private static void promise4PadThrows() {
        BoardHouse b = house(1, 0);
        b.part(2, 2, 0, 0, 0);
        b.part(2, 2, 4, 0, 0);
        b.drop(2001);
        int[] none = {0, -1, 1, 999, 1003, 2002, 2999, 3000, 4000, 5000, 6000, 7000, 8000, 8001, -2000, MIN, MAX};
        for (int h : none) {
            a.index("4 part " + h, () -> b.pad(h, 1000, 0, 0));
            a.index("4 net " + h, () -> b.pad(2000, h, 0, 0));
            a.index("4 net " + h + " ahead of the part's kind", () -> b.pad(1000, h, 0, 0));
            a.index("4 net " + h + " ahead of the part's state", () -> b.pad(2001, h, 0, 0));
        }
        b.via(1000, 9, 9);
        b.track(1000, 0, 9, 9, 9, 9);
        b.plane(1000, 0);
        b.version();
        b.begin(20, 20, 20, 20);
        int[] other = {3000, 4000, 5000, 6000, 7000};
        for (int h : other) {
            a.argument("4 part " + h, () -> b.pad(h, 1000, 0, 0));
            a.argument("4 net " + h, () -> b.pad(2000, h, 0, 0));
        }
        a.argument("4 a net as part", () -> b.pad(1000, 1000, 0, 0));
        a.argument("4 a part as net", () -> b.pad(2000, 2000, 0, 0));
        a.argument("4 net's kind ahead of the part's state", () -> b.pad(2001, 2000, 0, 0));
        a.state("4 dropped part", () -> b.pad(2001, 1000, 0, 0));
        a.state("4 dropped part ahead of outside", () -> b.pad(2001, 1000, 5, 5));
    }

    private static void promise5Via() {
        BoardHouse b = house(4, 2);
        a.due("5 via", 3000, () -> b.via(1000, 31, 23));
        a.due("5 via", 3001, () -> b.via(1000, 0, 0));
        a.due("5 no part", -1, () -> b.at(3001, 5));
        int[][] out = {{-1, 0}, {0, -1}, {32, 0}, {0, 24}, {MIN, 0}, {0, MAX}};
        for (int[] p : out) {
            refused("5 via at " + p[0] + " " + p[1], b, 2, () -> b.via(1000, p[0], p[1]));
        }
        refused("5 near along both", b, 5, () -> b.via(1001, 2, 2));
        refused("5 near along y", b, 5, () -> b.via(1001, 0, 2));
        a.due("5 not near along x", 3002, () -> b.via(1001, 3, 2));
        a.due("5 not near along y", 3003, () -> b.via(1001, 0, 3));
        b.track(1002, 3, 10, 10, 12, 10);
        refused("5 copper on all layers", b, 5, () -> b.via(1001, 14, 8));
        a.index("5 net", () -> b.via(1003, 0, 0));
        a.index("5 net 0", () -> b.via(0, 0, 0));
        a.argument("5 kind", () -> b.via(3000, 0, 0));
        for (int i = 4; i < 60; i++) {
            b.via(1000, 31, 23);
        }
        a.due("5 sixty", 60, () -> b.count(3));
        refused("5 full ahead of outside", b, 1, () -> b.via(1000, 99, 99));
        b.drop(3059);
        refused("5 numbers are not used again", b, 1, () -> b.via(1000, 31, 23));
    }

    private static void promise6Track() {
        BoardHouse b = house(2, 1);
        a.due("6 along x, turned", 4000, () -> b.track(1000, 0, 9, 5, 3, 5));
        a.due("6 lower x", 3, () -> b.at(4000, 1));
        a.due("6 lower y", 5, () -> b.at(4000, 2));
        a.due("6 along y, turned", 4001, () -> b.track(1000, 1, 20, 9, 20, 2));
        a.due("6 lower y", 2, () -> b.at(4001, 2));
        a.due("6 its layer", 1, () -> b.at(4001, 3));
        a.due("6 one cell", 4002, () -> b.track(1000, 0, 31, 23, 31, 23));
        refused("6 clash at the far end", b, 5, () -> b.track(1001, 0, 10, 6, 10, 9));
        a.due("6 other layer", 4003, () -> b.track(1001, 1, 10, 6, 10, 9));
        a.due("6 just not near", 4004, () -> b.track(1001, 0, 11, 6, 11, 9));
        refused("6 crossing", b, 5, () -> b.track(1001, 0, 5, 0, 5, 20));
        a.index("6 layer", () -> b.track(1000, 2, 0, 0, 1, 1));
        a.index("6 layer -1, ahead of the kind", () -> b.track(4000, -1, 0, 0, 0, 0));
        a.index("6 net", () -> b.track(1003, 0, 0, 0, 1, 1));
        a.argument("6 kind", () -> b.track(4000, 0, 0, 0, 0, 0));
        a.argument("6 both differ, ahead of outside", () -> b.track(1000, 0, 40, 40, 41, 41));
        int[][] out = {{0, 0, 32, 0}, {-1, 0, 3, 0}, {0, 24, 0, 0}, {0, 3, 0, -1}, {MIN, 0, MAX, 0}, {0, MIN, 0, MAX}, {50, 0, 60, 0}};
        for (int[] p : out) {
            refused("6 outside " + p[0], b, 2, () -> b.track(1000, 0, p[0], p[1], p[2], p[3]));
        }
        b.begin(0, 20, 3, 23);
        refused("6 barred by its last cell", b, 3, () -> b.track(1001, 0, 0, 5, 0, 20));
        for (int i = 5; i < 60; i++) {
            b.track(1000, 0, 31, 0, 31, 0);
        }
        refused("6 full ahead of outside", b, 1, () -> b.track(1000, 0, 99, 0, 99, 0));
    }

    private static void promise7Plane() {
        BoardHouse b = house(2, 1);
        a.due("7 plane", 5000, () -> b.plane(1000, 0));
        refused("7 a plane is there", b, 4, () -> b.plane(1000, 0));
        a.due("7 other layer", 5001, () -> b.plane(1001, 1));
        a.index("7 layer", () -> b.plane(1000, 2));
        a.index("7 layer ahead of kind", () -> b.plane(5000, -1));
        a.index("7 net", () -> b.plane(1003, 0));
        a.argument("7 kind", () -> b.plane(5000, 0));
        b.drop(5000);
        a.due("7 after a drop", 5002, () -> b.plane(1001, 0));
        a.due("7 a plane clashes with nothing", 3000, () -> b.via(1000, 4, 4));
        a.due("7 check", 0, b::check);
        int act = b.begin(5, 5, 5, 5);
        refused("7 barred ahead of overlap", b, 3, () -> b.plane(1000, 0));
        b.work(act);
        refused("7 it has all cells of the board", b, 3, () -> b.plane(1000, 0));
        b.end(act, true);
        for (int i = 3; i < 10; i++) {
            b.drop(5000 + i - 1);
            b.plane(1000, 0);
        }
        refused("7 full ahead of overlap", b, 1, () -> b.plane(1000, 0));
    }

    private static void promise8Move() {
        BoardHouse b = house(2, 1);
        b.part(3, 2, 1, 1, 0);
        b.pad(2000, 1000, 0, 0);
        b.pad(2000, 1001, 2, 1);
        b.pad(2000, 1000, 0, 1);
        b.drop(3002);
        b.part(2, 2, 20, 10, 0);
        b.part(2, 2, 20, 10, 1);
        a.due("8 move", true, () -> b.move(2000, 2, 1));
        a.due("8 told", 0, b::told);
        a.due("8 x", 2, () -> b.at(2000, 1));
        a.due("8 pad's x", 4, () -> b.at(3001, 1));
        a.due("8 pad's y", 2, () -> b.at(3001, 2));
        a.due("8 a dropped pad stays", 1, () -> b.at(3002, 1));
        int[][] out = {{-1, 0}, {0, -1}, {30, 0}, {0, 23}, {MAX, MAX}, {MIN, MIN}, {MAX - 1, 0}, {0, MAX}};
        for (int[] p : out) {
            refused("8 to " + p[0] + " " + p[1], b, 2, () -> b.move(2000, p[0], p[1]));
        }
        refused("8 overlap", b, 4, () -> b.move(2000, 18, 9));
        a.due("8 it stays", 2, () -> b.at(2000, 1));
        a.due("8 to the far corner", true, () -> b.move(2000, 29, 22));
        a.due("8 over itself", true, () -> b.move(2000, 28, 22));
        a.due("8 where it is", true, () -> b.move(2000, 28, 22));
        b.via(1002, 10, 10);
        refused("8 clash of a pad", b, 5, () -> b.move(2000, 11, 10));
        a.due("8 the pad stays", 28, () -> b.at(3000, 1));
        refused("8 clash of the other pad", b, 5, () -> b.move(2000, 7, 8));
        a.due("8 the rectangle is no copper", true, () -> b.move(2000, 7, 11));
        a.due("8 away again", true, () -> b.move(2000, 1, 1));
        b.gap(4);
        a.due("8 its own pads are not counted", true, () -> b.move(2000, 2, 2));
        a.due("8 they clash", "3000 3001", () -> b.near(0, 0) + " " + b.near(0, 1));
        b.begin(2, 2, 2, 2);
        refused("8 barred where it was", b, 3, () -> b.move(2000, 20, 10));
        refused("8 outside ahead of barred", b, 2, () -> b.move(2000, -1, 0));
        refused("8 barred where it will be", b, 3, () -> b.move(2001, 1, 1));
        BoardHouse c = house(1, 0);
        c.part(1, 1, 3, 3, 0);
        c.pad(2000, 1000, 0, 0);
        int act = c.begin(2, 2, 5, 5);
        c.work(act);
        refused("8 out of the region", c, 3, () -> c.move(2000, 6, 5));
        a.due("8 inside the region", true, () -> c.move(2000, 5, 5));
    }

    /** A via of another net on each side of a pad that was moved there, too near and just not. */
    private static void promise8MoveNear() {
        int[][] sides = {{1, 0}, {-1, 0}, {0, 1}, {0, -1}, {1, 1}, {-1, -1}, {1, -1}, {-1, 1}};
        int[][] starts = {{0, 0}, {31, 23}, {31, 0}, {0, 23}};
        for (int[] side : sides) {
            for (int[] start : starts) {
                for (int far = 3; far <= 4; far++) {
                    BoardHouse b = house(1, 3);
                    b.part(1, 1, start[0], start[1], 0);
                    b.pad(2000, 1000, 0, 0);
                    b.via(1001, 16 + far * side[0], 12 + far * side[1]);
                    String what = "8 from " + start[0] + " to " + far + " of " + side[0] + " " + side[1];
                    a.due(what, far > 3, () -> b.move(2000, 16, 12));
                    a.due(what + " told", far > 3 ? 0 : 5, b::told);
                }
            }
        }
    }

    private static void promise8MoveThrows() {
        BoardHouse b = house(1, 0);
        b.part(1, 1, 0, 0, 0);
        b.drop(2000);
        a.index("8 number", () -> b.move(2001, 0, 0));
        a.index("8 number of another kind", () -> b.move(1003, 0, 0));
        a.index("8 below", () -> b.move(-1, 0, 0));
        a.argument("8 kind", () -> b.move(1000, 0, 0));
        b.via(1000, 9, 9);
        b.track(1000, 0, 9, 9, 9, 9);
        b.plane(1000, 0);
        for (int h : new int[] {3000, 4000, 5000}) {
            a.argument("8 a thing, but no part, " + h, () -> b.move(h, 0, 0));
        }
        a.state("8 dropped, ahead of outside", () -> b.move(2000, -1, 0));
    }

    private static void promise9Drop() {
        BoardHouse b = house(2, 1);
        b.part(3, 3, 0, 0, 0);
        b.pad(2000, 1000, 0, 0);
        b.pad(2000, 1000, 2, 2);
        b.via(1000, 1, 1);
        b.track(1000, 0, 0, 5, 5, 5);
        b.plane(1000, 1);
        b.version();
        int act = b.begin(2, 2, 3, 3);
        refused("9 barred by its rectangle", b, 3, () -> b.drop(2000));
        refused("9 barred plane", b, 3, () -> b.drop(5000));
        a.due("9 it is there", 1, () -> b.at(3000, 0));
        a.due("9 one pad", true, () -> b.drop(3000));
        a.due("9 told", 0, b::told);
        a.argument("9 a net", () -> b.drop(1000));
        a.argument("9 an act", () -> b.drop(6000));
        a.argument("9 a version", () -> b.drop(7000));
        b.end(act, true);
        a.due("9 part", true, () -> b.drop(2000));
        a.due("9 its pad", 0, () -> b.at(3001, 0));
        a.due("9 a via is not its pad", 1, () -> b.at(3002, 0));
        a.state("9 part again", () -> b.drop(2000));
        a.state("9 its pad again", () -> b.drop(3001));
        a.due("9 via", true, () -> b.drop(3002));
        a.due("9 track", true, () -> b.drop(4000));
        a.due("9 plane", true, () -> b.drop(5000));
        a.state("9 plane again", () -> b.drop(5000));
        int[] none = {0, -1, 999, 1003, 2001, 3003, 4001, 5001, 6001, 7001, 8000, MIN, MAX};
        for (int h : none) {
            a.index("9 drop " + h, () -> b.drop(h));
        }
        a.due("9 dropped copper clashes no more", 3003, () -> b.via(1001, 3, 5));
    }

    private static void promise10Gap() {
        BoardHouse b = house(1, 0);
        b.via(1000, 5, 5);
        b.via(1001, 6, 6);
        a.due("10 check", 0, b::check);
        a.due("10 gap", 0, () -> b.gap(1));
        a.due("10 check", 1, b::check);
        a.due("10 same", 1, () -> b.gap(1));
        a.argument("10 below", () -> b.gap(-1));
        a.argument("10 above", () -> b.gap(5));
        a.due("10 unchanged", 1, () -> b.gap(4));
        refused("10 it counts from now on", b, 5, () -> b.via(1002, 9, 9));
        a.due("10 back", 4, () -> b.gap(0));
        a.due("10 beside", 3002, () -> b.via(1002, 5, 6));
    }

    private static void promise11Islands() {
        BoardHouse b = house(2, 0);
        a.due("11 empty", 0, () -> b.islands(1000));
        b.track(1000, 0, 0, 0, 5, 0);
        a.due("11 a track alone has no pad", 0, () -> b.islands(1000));
        b.via(1000, 3, 1);
        a.due("11 beside", 1, () -> b.islands(1000));
        b.via(1000, 6, 1);
        a.due("11 across a corner", 2, () -> b.islands(1000));
        b.via(1000, 6, 1);
        a.due("11 two in one cell", 2, () -> b.islands(1000));
        b.track(1000, 1, 4, 1, 5, 1);
        a.due("11 along the other layer", 1, () -> b.islands(1000));
        b.drop(4001);
        a.due("11 dropped", 2, () -> b.islands(1000));
        b.track(1000, 1, 4, 1, 4, 2);
        b.track(1000, 0, 5, 2, 6, 2);
        a.due("11 tracks of two layers do not join", 2, () -> b.islands(1000));
        b.via(1000, 5, 2);
        a.due("11 a via joins them", 1, () -> b.islands(1000));
        BoardHouse c = house(1, 0);
        c.via(1000, 0, 0);
        c.track(1000, 0, 1, 0, 30, 0);
        c.via(1000, 31, 0);
        c.via(1000, 0, 23);
        c.via(1000, 31, 23);
        c.track(1000, 0, 0, 23, 31, 23);
        a.due("11 along the edges", 2, () -> c.islands(1000));
        c.track(1000, 0, 31, 22, 31, 1);
        a.due("11 along three edges", 1, () -> c.islands(1000));
        b.via(1001, 31, 1);
        b.via(1001, 0, 2);
        a.due("11 rows do not run on", 2, () -> b.islands(1001));
        a.due("11 other net", 0, () -> b.islands(1002));
        a.index("11 net", () -> b.islands(1003));
        a.index("11 0", () -> b.islands(0));
        a.argument("11 kind", () -> b.islands(4000));
    }

    private static void promise11IslandsOfPlanes() {
        BoardHouse b = house(2, 1);
        b.via(1000, 2, 2);
        b.via(1000, 28, 20);
        a.due("11 apart", 2, () -> b.islands(1000));
        b.plane(1000, 1);
        a.due("11 joined by the plane", 1, () -> b.islands(1000));
        a.due("11 not by another's", 0, () -> b.islands(1001));
        b.track(1001, 1, 16, 0, 16, 23);
        a.due("11 cut in two", 2, () -> b.islands(1000));
        b.track(1000, 0, 10, 10, 20, 10);
        a.due("11 a track of the other layer", 2, () -> b.islands(1000));
        b.via(1000, 10, 10);
        b.via(1000, 20, 10);
        a.due("11 over the cut", 1, () -> b.islands(1000));
        b.drop(5000);
        a.due("11 without the plane", 3, () -> b.islands(1000));
    }

    private static void promise12Check() {
        BoardHouse b = house(2, 0);
        b.via(1000, 0, 0);
        b.via(1001, 4, 4);
        b.track(1002, 0, 8, 0, 8, 5);
        b.track(1001, 1, 8, 0, 8, 5);
        b.part(4, 4, 0, 0, 0);
        b.plane(1002, 0);
        int[] want = {0, 0, 0, 0, 2};
        for (int g = 0; g <= 4; g++) {
            int v = g;
            b.gap(v);
            a.due("12 at gap " + v, want[v], b::check);
        }
        b.drop(3001);
        a.due("12 dropped", 0, b::check);
        int[][] sides = {{1, 0}, {-1, 0}, {0, 1}, {0, -1}};
        for (int[] side : sides) {
            BoardHouse c = house(1, 0);
            c.via(1000, 16, 12);
            c.via(1001, 16 + 2 * side[0], 12 + 2 * side[1]);
            for (int g = 0; g <= 4; g++) {
                int v = g;
                c.gap(v);
                a.due("12 side " + side[0] + " " + side[1] + " at gap " + v, v < 2 ? 0 : 1, c::check);
            }
        }
    }

    private static void promise13Near() {
        BoardHouse b = house(1, 0);
        b.track(1000, 0, 0, 3, 6, 3);
        b.via(1001, 0, 0);
        b.via(1002, 3, 0);
        b.via(1001, 6, 0);
        b.gap(3);
        int[][] want = {{3000, 3001}, {3000, 4000}, {3001, 3002}, {3001, 4000}, {3002, 4000}};
        a.due("13 check", want.length, b::check);
        for (int i = 0; i < want.length; i++) {
            int k = i;
            a.due("13 lower of " + k, want[k][0], () -> b.near(k, 0));
            a.due("13 other of " + k, want[k][1], () -> b.near(k, 1));
        }
        int[] none = {-1, 5, 6, MIN, MAX};
        for (int k : none) {
            a.due("13 pair " + k, -1, () -> b.near(k, 0));
            a.due("13 pair " + k, -1, () -> b.near(k, 1));
        }
        a.index("13 which 2", () -> b.near(0, 2));
        a.index("13 which -1", () -> b.near(0, -1));
        a.index("13 which, and no such pair", () -> b.near(-1, MAX));
    }

    private static void promise14Filled() {
        BoardHouse b = house(2, 1);
        b.plane(1000, 0);
        a.due("14 no copper, nothing filled", 0, () -> b.filled(5000));
        b.via(1000, 0, 0);
        a.due("14 all", 768, () -> b.filled(5000));
        b.via(1001, 16, 12);
        a.due("14 but nine", 759, () -> b.filled(5000));
        b.via(1001, 31, 23);
        a.due("14 but four in the corner", 755, () -> b.filled(5000));
        b.track(1001, 1, 5, 5, 9, 5);
        a.due("14 the other layer counts not", 755, () -> b.filled(5000));
        b.gap(0);
        a.due("14 gap 0", 766, () -> b.filled(5000));
        b.gap(4);
        a.due("14 gap 4", 768 - 81 - 25, () -> b.filled(5000));
        b.drop(3000);
        a.due("14 nothing to come from", 0, () -> b.filled(5000));
        a.index("14 number", () -> b.filled(5001));
        a.index("14 0", () -> b.filled(0));
        a.argument("14 kind", () -> b.filled(1000));
        a.argument("14 a thing, but no plane", () -> b.filled(4000));
        a.argument("14 dropped, but no plane", () -> b.filled(3000));
        b.drop(5000);
        a.state("14 dropped", () -> b.filled(5000));
    }

    private static void promise14FilledWays() {
        BoardHouse b = house(1, 0);
        b.plane(1000, 0);
        b.via(1000, 0, 0);
        // A way that turns at every second row, so that it is 12 rows and 11 cells between them.
        for (int i = 0; i < 11; i++) {
            int from = i % 2 == 0 ? 0 : 1;
            b.track(1001, 0, from, 2 * i + 1, from + 30, 2 * i + 1);
        }
        a.due("14 a winding way", 12 * 32 + 11 + 32, () -> b.filled(5000));
        BoardHouse c = house(1, 0);
        c.plane(1000, 0);
        c.via(1000, 0, 0);
        c.via(1001, 1, 0);
        c.via(1001, 0, 1);
        a.due("14 no step across a corner", 1, () -> c.filled(5000));
        c.via(1000, 31, 23);
        a.due("14 from all copper", 766, () -> c.filled(5000));
        c.gap(1);
        a.due("14 copper near another's does not lie on such cells", 768 - 3 * 3 + 1, () -> c.filled(5000));
    }

    private static void promise15At() {
        BoardHouse b = house(3, 0);
        b.part(2, 3, 4, 5, 1);
        b.pad(2000, 1001, 1, 2);
        b.via(1002, 9, 8);
        b.track(1002, 2, 9, 8, 9, 3);
        b.plane(1000, 2);
        b.version();
        int[] handles = {2000, 3000, 3001, 4000, 5000};
        int[][] want = {
            {1, 4, 5, 1, -1, -1}, {1, 5, 7, 0, 1001, 2000}, {1, 9, 8, 0, 1002, -1},
            {1, 9, 3, 2, 1002, -1}, {1, 0, 0, 2, 1000, -1}};
        allAt(b, handles, want, 1);
        for (int h : new int[] {5000, 4000, 3001, 2000}) {
            b.drop(h);
        }
        allAt(b, handles, want, 0);
        a.index("15 what 6", () -> b.at(2000, 6));
        a.index("15 what -1", () -> b.at(2000, -1));
        a.index("15 what ahead of the kind", () -> b.at(1000, 6));
        a.index("15 number", () -> b.at(2001, 0));
        a.index("15 number of another kind", () -> b.at(6000, 0));
        a.argument("15 net", () -> b.at(1000, 0));
        a.argument("15 version", () -> b.at(7000, 0));
    }

    private static void allAt(BoardHouse b, int[] handles, int[][] want, int there) {
        for (int i = 0; i < handles.length; i++) {
            int h = handles[i];
            a.due("15 there " + h, there, () -> b.at(h, 0));
            for (int w = 1; w <= 5; w++) {
                int what = w;
                a.due("15 at " + h + " " + what, want[i][what], () -> b.at(h, what));
            }
        }
    }

    private static void promise16Count() {
        BoardHouse b = house(1, 0);
        b.part(2, 2, 0, 0, 0);
        b.pad(2000, 1000, 0, 0);
        b.via(1000, 5, 5);
        b.track(1000, 0, 0, 0, 3, 0);
        b.plane(1000, 0);
        int[] want = {0, 0, 1, 2, 1, 1};
        for (int kind = 2; kind <= 5; kind++) {
            int k = kind;
            a.due("16 count " + k, want[k], () -> b.count(k));
        }
        b.drop(2000);
        a.due("16 parts", 0, () -> b.count(2));
        a.due("16 pads", 1, () -> b.count(3));
        for (int kind : new int[] {1, 6, 0, -1, 7, MIN, MAX}) {
            a.index("16 count " + kind, () -> b.count(kind));
        }
    }

    private static void promise17Begin() {
        BoardHouse b = house(1, 0);
        int[][] out = {{-1, 0, 1, 1}, {0, -1, 1, 1}, {0, 0, 32, 1}, {0, 0, 1, 24}, {2, 0, 1, 1}, {0, 2, 1, 1}, {MIN, 0, MAX, 0}};
        for (int[] r : out) {
            refused("17 begin " + r[0] + " " + r[1], b, 2, () -> b.begin(r[0], r[1], r[2], r[3]));
        }
        a.due("17 one cell", 6000, () -> b.begin(5, 5, 5, 5));
        a.due("17 told", 0, b::told);
        refused("17 a cell in common", b, 3, () -> b.begin(0, 0, 5, 5));
        refused("17 outside ahead of barred", b, 2, () -> b.begin(5, 5, 40, 5));
        a.due("17 beside", 6001, () -> b.begin(0, 0, 4, 23));
        a.due("17 beginning is not working", false, () -> b.work(0));
        b.end(6000, true);
        a.due("17 after the end", 6002, () -> b.begin(5, 5, 31, 23));
        for (int i = 3; i < 10; i++) {
            b.end(6000 + i - 1, true);
            b.begin(5, 5, 5, 5);
        }
        refused("17 full ahead of outside", b, 1, () -> b.begin(-1, 0, 0, 0));
    }

    private static void promise18Work() {
        BoardHouse b = house(1, 0);
        a.due("18 none was none", false, () -> b.work(0));
        b.begin(0, 0, 3, 3);
        b.begin(10, 0, 13, 3);
        a.due("18 first", true, () -> b.work(6000));
        a.due("18 same", false, () -> b.work(6000));
        a.due("18 other", true, () -> b.work(6001));
        a.due("18 none", true, () -> b.work(0));
        a.index("18 number", () -> b.work(6002));
        a.index("18 below", () -> b.work(-1));
        a.index("18 no handle", () -> b.work(1));
        a.index("18 number of another kind", () -> b.work(2000));
        a.argument("18 kind", () -> b.work(1000));
        b.end(6001, true);
        a.state("18 ended", () -> b.work(6001));
        b.work(6000);
        a.index("18 throws", () -> b.work(6005));
        a.due("18 and stays", false, () -> b.work(6000));
    }

    private static void promise18Regions() {
        BoardHouse b = house(1, 0);
        b.begin(0, 0, 3, 3);
        b.begin(10, 0, 13, 3);
        a.due("18 free cells", 3000, () -> b.via(1000, 4, 4));
        refused("18 held cells", b, 3, () -> b.via(1000, 3, 3));
        b.work(6000);
        a.due("18 its own", 3001, () -> b.via(1000, 3, 3));
        refused("18 free cells from an act", b, 3, () -> b.via(1000, 4, 4));
        refused("18 dropping free ones", b, 3, () -> b.drop(3000));
        refused("18 another's", b, 3, () -> b.via(1000, 10, 0));
        a.due("18 a part to the edge", 2000, () -> b.part(4, 4, 0, 0, 0));
        refused("18 a track over the edge", b, 3, () -> b.track(1000, 0, 0, 0, 4, 0));
        b.work(6001);
        refused("18 the first one's", b, 3, () -> b.drop(3001));
        b.work(0);
        refused("18 from none", b, 3, () -> b.drop(3001));
        b.end(6000, true);
        a.due("18 free again", true, () -> b.drop(3001));
    }

    /** One cell beyond each side of a region, and the cell at that side of it. */
    private static void promise18Sides() {
        int[][] out = {{9, 4}, {14, 4}, {12, 2}, {12, 6}};
        int[][] in = {{10, 4}, {13, 4}, {12, 3}, {12, 5}};
        for (int i = 0; i < out.length; i++) {
            int[] o = out[i];
            int[] n = in[i];
            BoardHouse b = house(1, 0);
            b.begin(10, 3, 13, 5);
            refused("18 in it from none", b, 3, () -> b.via(1000, n[0], n[1]));
            a.due("18 out of it from none", 3000, () -> b.via(1000, o[0], o[1]));
            b.work(6000);
            refused("18 out of it", b, 3, () -> b.via(1000, o[0], o[1]));
            a.due("18 in it", 3001, () -> b.via(1000, n[0], n[1]));
        }
    }

    private static void promise19End() {
        BoardHouse b = house(1, 0);
        b.part(2, 2, 0, 0, 0);
        b.pad(2000, 1000, 0, 0);
        b.pad(2000, 1000, 1, 1);
        b.begin(0, 0, 9, 9);
        b.begin(20, 0, 29, 9);
        b.work(6000);
        b.move(2000, 3, 3);
        b.move(2000, 50, 3);
        b.drop(3000);
        b.move(2000, 4, 4);
        b.net();
        b.gap(2);
        b.track(1000, 0, 0, 0, 9, 0);
        b.drop(2000);
        a.due("19 another act", 0, () -> b.end(6001, false));
        a.due("19 the work goes on", false, () -> b.work(6000));
        // 3 moved, 1 dropped, 2 moved, 1 made, 2 dropped.
        a.due("19 changes", 9, () -> b.end(6000, true));
        a.due("19 works in none", false, () -> b.work(0));
        a.due("19 kept", 0, () -> b.at(2000, 0));
        a.due("19 kept where", 4, () -> b.at(2000, 1));
        a.due("19 gap kept", 2, () -> b.gap(0));
        a.state("19 ended", () -> b.end(6000, true));
        a.index("19 number", () -> b.end(6002, true));
        a.index("19 0 is no act", () -> b.end(0, true));
        a.argument("19 kind", () -> b.end(1000, true));
    }

    private static void promise19EndUndoes() {
        BoardHouse b = house(1, 4);
        b.part(2, 2, 0, 0, 0);
        b.pad(2000, 1000, 0, 0);
        b.via(1000, 9, 9);
        b.begin(0, 0, 9, 9);
        b.work(6000);
        b.drop(3001);
        b.move(2000, 3, 3);
        b.drop(2000);
        b.part(4, 4, 0, 0, 0);
        b.move(2001, 1, 1);
        b.pad(2001, 1000, 0, 0);
        b.move(2001, 2, 2);
        b.work(0);
        b.via(1001, 11, 9);
        a.due("19 check", 0, b::check);
        // 1 dropped, 2 moved, 2 dropped, 1 made, 1 moved, 1 made, 2 moved.
        a.due("19 undone", 10, () -> b.end(6000, false));
        int[][] want = {{2000, 1, 0, 0}, {3000, 1, 0, 0}, {3001, 1, 9, 9}, {2001, 0, 0, 0}, {3002, 0, 1, 1}, {3003, 1, 11, 9}};
        for (int[] w : want) {
            for (int what = 0; what <= 2; what++) {
                int k = what;
                a.due("19 undone " + w[0] + " " + k, w[k + 1], () -> b.at(w[0], k));
            }
        }
        a.due("19 without being asked", 1, b::check);
        a.due("19 numbers are not used again", 2002, () -> b.part(1, 1, 20, 20, 0));
        BoardHouse c = house(1, 0);
        c.begin(0, 0, 31, 23);
        c.work(6000);
        c.plane(1000, 0);
        a.due("19 a plane", 1, () -> c.end(6000, false));
        a.due("19 undone plane", 5001, () -> c.plane(1001, 0));
    }

    private static void promise20Version() {
        BoardHouse b = house(1, 0);
        for (int i = 0; i < 8; i++) {
            a.due("20 version", 7000 + i, b::version);
        }
        refused("20 full", b, 1, b::version);
        b.begin(0, 0, 0, 0);
        a.due("20 told", 0, b::told);
        a.state("20 an act is open, ahead of full", b::version);
        b.end(6000, true);
        refused("20 full", b, 1, b::version);
    }

    private static void promise21Back() {
        BoardHouse b = house(1, 1);
        b.part(2, 2, 0, 0, 0);
        b.pad(2000, 1000, 1, 1);
        b.via(1000, 9, 9);
        b.via(1000, 9, 11);
        b.drop(3002);
        b.version();
        b.move(2000, 4, 4);
        b.drop(3001);
        b.track(1000, 0, 0, 0, 3, 0);
        b.track(1000, 0, 0, 0, 3, 0);
        b.drop(4001);
        b.plane(1000, 0);
        b.gap(2);
        b.version();
        a.due("21 part, pad, via, track, plane", 5, () -> b.back(7000));
        int[][] first = {{2000, 1, 0}, {3000, 1, 1}, {3001, 1, 9}, {3002, 0, 9}, {4000, 0, 0}, {4001, 0, 0}, {5000, 0, 0}};
        stands("21 first", b, first);
        a.due("21 again", 0, () -> b.back(7000));
        a.due("21 the gap is not in it", 2, () -> b.gap(2));
        a.due("21 numbers are not used again", 4002, () -> b.track(1000, 0, 0, 0, 3, 0));
        a.due("21 forward, less the new track", 6, () -> b.back(7001));
        int[][] second = {{2000, 1, 4}, {3000, 1, 5}, {3001, 0, 9}, {4000, 1, 0}, {4001, 0, 0}, {4002, 0, 0}, {5000, 1, 0}};
        stands("21 second", b, second);
        a.index("21 number", () -> b.back(7002));
        a.index("21 0", () -> b.back(0));
        a.argument("21 kind", () -> b.back(1000));
        b.begin(0, 0, 0, 0);
        a.state("21 an act is open", () -> b.back(7000));
        a.index("21 number ahead of the act", () -> b.back(7002));
        a.argument("21 kind ahead of the act", () -> b.back(6000));
        stands("21 still the second", b, second);
        BoardHouse c = house(1, 0);
        c.part(1, 1, 2, 2, 0);
        c.version();
        c.move(2000, 7, 2);
        c.drop(2000);
        c.version();
        c.back(7000);
        c.drop(2000);
        a.due("21 where a dropped one was", 1, () -> c.back(7001));
        a.due("21 its x", 7, () -> c.at(2000, 1));
    }

    /** Rows of a handle, whether it is there, and its x. */
    private static void stands(String what, BoardHouse b, int[][] rows) {
        for (int[] row : rows) {
            a.due(what + " there " + row[0], row[1], () -> b.at(row[0], 0));
            a.due(what + " x of " + row[0], row[2], () -> b.at(row[0], 1));
        }
    }

    private static void promise22Told() {
        BoardHouse b = house(1, 1);
        a.due("22 not refused", 0, b::told);
        b.via(1000, 40, 0);
        a.due("22 refused", 2, b::told);
        a.due("22 asked again", 2, b::told);
        Answers.of(() -> b.via(1005, 0, 0));
        Answers.of(() -> b.part(0, 0, 0, 0, 0));
        Answers.of(() -> b.track(1000, 0, 0, 0, 1, 1));
        a.due("22 one that throws is none", 2, b::told);
        b.gap(1);
        b.check();
        b.islands(1000);
        b.count(2);
        b.near(0, 0);
        b.work(0);
        a.due("22 those that can't be refused are none", 2, b::told);
        b.via(1000, 4, 4);
        a.due("22 via", 0, b::told);
        b.via(1001, 4, 4);
        a.due("22 clash", 5, b::told);
        b.drop(3000);
        a.due("22 drop", 0, b::told);
        b.begin(3, 3, 2, 2);
        a.due("22 begin", 2, b::told);
        b.version();
        a.due("22 version", 0, b::told);
        b.begin(3, 3, 2, 2);
        b.back(7000);
        a.due("22 back is none", 2, b::told);
        b.net();
        a.due("22 net", 0, b::told);
        b.part(1, 1, 0, 0, 0);
        b.move(2000, -1, 0);
        a.due("22 move", 2, b::told);
        b.move(2000, 1, 0);
        a.due("22 move", 0, b::told);
        b.pad(2000, 1000, 1, 0);
        a.due("22 pad", 2, b::told);
        b.begin(0, 0, 0, 0);
        b.plane(1000, 0);
        a.due("22 plane", 3, b::told);
        b.end(6000, true);
        a.due("22 end is none", 3, b::told);
    }
}
