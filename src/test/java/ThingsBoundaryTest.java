/** The boundary cases that promises 1 to 9 name, sentence by sentence. */
public final class ThingsBoundaryTest {
    private static final int MIN = Sentences.MIN;
    private static final int MAX = Sentences.MAX;
    private static final int FULL = Sentences.FULL;
    private static final int OUTSIDE = Sentences.OUTSIDE;
    private static final int BARRED = Sentences.BARRED;
    private static final int OVERLAP = Sentences.OVERLAP;
    private static final int CLASH = Sentences.CLASH;
    private static final Sentences s = new Sentences();

    public static void main(String[] args) {
        newObjectAndNet();
        partAndPad();
        viaTrackAndPlane();
        moveAndDrop();
        s.finish("ThingsBoundaryTest");
    }

    private static void newObjectAndNet() {
        s.test("1", "An empty board", ThingsBoundaryTest::emptyBoard);
        s.test("1", "gap is held to 0 .. 4.", ThingsBoundaryTest::gapHeld);
        s.test("2", "A new net: its HANDLE; NONE, REFUSED.", ThingsBoundaryTest::net);
    }

    private static void partAndPad() {
        s.test("3", "A new PART likewise.", ThingsBoundaryTest::part);
        s.test("3", "IllegalArgumentException, when w, h or side are not so.", ThingsBoundaryTest::partThrows);
        s.test("4", "A new PAD of a part, dx, dy CELLS from its first one, of a net.", ThingsBoundaryTest::pad);
        s.test("4", "IndexOutOfBoundsException, when a number was not given (of any KIND)", ThingsBoundaryTest::padNotGiven);
        s.test("4", "IllegalArgumentException, when a HANDLE is of another KIND", ThingsBoundaryTest::padOtherKind);
        s.test("4", "IllegalStateException, when the part is not THERE.", ThingsBoundaryTest::padPartNotThere);
    }

    private static void viaTrackAndPlane() {
        s.test("5", "A new VIA of a net.", ThingsBoundaryTest::via);
        s.test("5", "Throws likewise, for the net.", ThingsBoundaryTest::viaThrows);
        s.test("6", "A new TRACK of a net, from a CELL to another one.", ThingsBoundaryTest::track);
        s.test("6", "Throws likewise", ThingsBoundaryTest::trackThrows);
        s.test("6", "IndexOutOfBoundsException, when there is no such layer", ThingsBoundaryTest::trackLayer);
        s.test("6", "IllegalArgumentException, also when x and y both differ.", ThingsBoundaryTest::trackSlants);
        s.test("7", "A new PLANE of a net on a layer.", ThingsBoundaryTest::plane);
        s.test("7", "Throws likewise.", ThingsBoundaryTest::planeThrows);
    }

    private static void moveAndDrop() {
        s.test("8", "A part, with its pads, goes to x, y: true", ThingsBoundaryTest::move);
        s.test("8", "false, REFUSED.", ThingsBoundaryTest::moveRefused);
        s.test("8, not given", "IndexOutOfBoundsException, IllegalArgumentException, IllegalStateException as of a part in pad().",
                ThingsBoundaryTest::moveNotGiven);
        s.test("8, of another kind", "IllegalArgumentException, IllegalStateException as of a part in pad().",
                ThingsBoundaryTest::moveOtherKind);
        s.test("8, not there", "IllegalStateException as of a part in pad().", ThingsBoundaryTest::moveNotThere);
        s.test("9", "A THING is dropped, a part with its pads: true", ThingsBoundaryTest::drop);
        s.test("9", "false, REFUSED.", ThingsBoundaryTest::dropRefused);
        s.test("9", "Throws likewise, for the THING", ThingsBoundaryTest::dropThrows);
        s.test("9", "(IllegalArgumentException, when it is none)", ThingsBoundaryTest::dropNoThing);
    }

    private static BoardHouse house(int layers, int gap) {
        return Sentences.house(layers, gap);
    }

    private static void emptyBoard() {
        BoardHouse b = new BoardHouse(4, 4);
        for (int kind = 2; kind <= 5; kind++) {
            int k = kind;
            s.due("things of kind " + k, 0, () -> b.count(k));
            s.index("the first of kind " + k, () -> b.at(1000 * k, 0));
        }
        s.due("pairs", 0, b::check);
        s.due("the first pair", -1, () -> b.near(0, 0));
        s.due("told", 0, b::told);
        s.due("worked in another act", false, () -> b.work(0));
        s.index("a net", () -> b.islands(1000));
        s.index("a version", () -> b.back(7000));
        s.index("an act", () -> b.end(6000, true));
        s.due("no act is open", 7000, b::version);
    }

    private static void gapHeld() {
        int[][] held = {{MIN, 0}, {-1, 0}, {0, 0}, {1, 1}, {2, 2}, {3, 3}, {4, 4}, {5, 4}, {MAX, 4}};
        for (int[] h : held) {
            BoardHouse b = house(1, h[0]);
            b.via(1000, 16, 12);
            s.refused("a via at the gap of " + h[0], b, CLASH, () -> b.via(1001, 16 + h[1], 12));
            s.due("a via just beyond it", 3001, () -> b.via(1001, 17 + h[1], 12));
            s.due("the gap", h[1], () -> b.gap(0));
        }
    }

    private static void net() {
        BoardHouse b = new BoardHouse(1, 0);
        for (int n = 0; n < 20; n++) {
            s.due("net " + n, 1000 + n, b::net);
        }
        s.due("told", 0, b::told);
        s.refused("net 20", b, FULL, b::net);
        s.index("which was not given", () -> b.islands(1020));
        BoardHouse c = house(1, 0);
        c.version();
        c.work(c.begin(0, 0, 0, 0));
        s.due("no region bars a net", 1003, c::net);
        s.due("it is no change of the act", 0, () -> c.end(6000, false));
        s.due("nor of a version", 0, () -> c.back(7000));
        s.due("it stays", 3000, () -> c.via(1003, 0, 0));
    }

    private static void part() {
        BoardHouse b = house(1, 0);
        s.due("the first", 2000, () -> b.part(8, 8, 0, 0, 0));
        s.due("told", 0, b::told);
        s.refused("a cell outside", b, OUTSIDE, () -> b.part(8, 8, 25, 0, 1));
        s.refused("a cell in common", b, OVERLAP, () -> b.part(8, 8, 7, 7, 0));
        s.due("the second", 2001, () -> b.part(8, 8, 8, 7, 0));
        b.begin(31, 23, 31, 23);
        s.refused("a cell of an act's", b, BARRED, () -> b.part(2, 2, 30, 22, 0));
        s.due("the third", 2002, () -> b.part(2, 2, 29, 22, 0));
        s.due("its x", 29, () -> b.at(2002, 1));
        for (int n = 3; n < 20; n++) {
            b.part(1, 1, n, 20, 0);
        }
        s.refused("the twenty-first", b, FULL, () -> b.part(1, 1, 0, 20, 0));
    }

    private static void partThrows() {
        BoardHouse b = house(1, 0);
        for (int size : new int[] {MIN, -1, 0, 9, 10, MAX}) {
            s.argument("w " + size, () -> b.part(size, 1, 0, 0, 0));
            s.argument("h " + size, () -> b.part(1, size, 0, 0, 0));
        }
        for (int side : new int[] {MIN, -1, 2, MAX}) {
            s.argument("side " + side, () -> b.part(1, 1, 0, 0, side));
        }
        s.argument("all of them", () -> b.part(0, 9, 0, 0, 2));
        s.due("none was made", 0, () -> b.count(2));
        for (int size = 1; size <= 8; size++) {
            int n = size;
            BoardHouse c = house(1, 0);
            s.due("w " + n, 2000, () -> c.part(n, 1, 0, 0, 0));
            s.due("h " + n, 2001, () -> c.part(1, n, 0, 0, 1));
        }
    }

    private static void pad() {
        BoardHouse b = house(1, 0);
        b.part(8, 8, 24, 16, 1);
        s.due("its first cell", 3000, () -> b.pad(2000, 1000, 0, 0));
        s.due("its last cell", 3001, () -> b.pad(2000, 1001, 7, 7));
        s.due("x", 31, () -> b.at(3001, 1));
        s.due("y", 23, () -> b.at(3001, 2));
        s.due("net", 1001, () -> b.at(3001, 4));
        s.due("part", 2000, () -> b.at(3001, 5));
        s.refused("beyond it along x", b, OUTSIDE, () -> b.pad(2000, 1000, 8, 0));
        s.refused("beyond it along y", b, OUTSIDE, () -> b.pad(2000, 1000, 0, 8));
        s.refused("ahead of it along x", b, OUTSIDE, () -> b.pad(2000, 1000, -1, 0));
        s.refused("ahead of it along y", b, OUTSIDE, () -> b.pad(2000, 1000, 0, -1));
        s.refused("on another net's", b, CLASH, () -> b.pad(2000, 1001, 0, 0));
        b.move(2000, 0, 0);
        s.due("when the part has moved", 3002, () -> b.pad(2000, 1002, 7, 0));
        s.due("x then", 7, () -> b.at(3002, 1));
        s.due("y then", 0, () -> b.at(3002, 2));
        b.begin(3, 3, 3, 3);
        s.refused("in an act's region", b, BARRED, () -> b.pad(2000, 1000, 3, 3));
        s.due("beside it, in a part that is half in it", 3003, () -> b.pad(2000, 1000, 2, 3));
    }

    private static void padNotGiven() {
        BoardHouse b = Sentences.oneOfEach();
        for (int h : Sentences.NOT_GIVEN) {
            s.index("part " + h, () -> b.pad(h, 1000, 0, 0));
            s.index("net " + h, () -> b.pad(2000, h, 0, 0));
        }
        s.due("told, as before", 0, b::told);
        s.due("none was made", 2, () -> b.count(3));
    }

    private static void padOtherKind() {
        BoardHouse b = Sentences.oneOfEach();
        for (int h : Sentences.ofOtherKind(2)) {
            s.argument("part " + h, () -> b.pad(h, 1000, 0, 0));
        }
        for (int h : Sentences.ofOtherKind(1)) {
            s.argument("net " + h, () -> b.pad(2000, h, 0, 0));
        }
        s.due("both as they should be", 3002, () -> b.pad(2000, 1000, 0, 0));
    }

    private static void padPartNotThere() {
        BoardHouse b = house(1, 0);
        b.version();
        b.part(2, 2, 0, 0, 0);
        s.due("a part that is there", 3000, () -> b.pad(2000, 1000, 0, 0));
        b.drop(3000);
        s.due("its pad was dropped", 3001, () -> b.pad(2000, 1000, 0, 0));
        b.drop(2000);
        s.state("a dropped part", () -> b.pad(2000, 1000, 0, 0));
        b.work(b.begin(0, 0, 9, 9));
        b.part(2, 2, 0, 0, 0);
        b.end(6000, false);
        s.state("one undone", () -> b.pad(2001, 1000, 0, 0));
        b.part(2, 2, 0, 0, 0);
        b.back(7000);
        s.state("one made since a version", () -> b.pad(2002, 1000, 0, 0));
    }

    private static void via() {
        BoardHouse b = house(1, 1);
        s.due("in the first cell", 3000, () -> b.via(1000, 0, 0));
        s.due("in the last cell", 3001, () -> b.via(1001, 31, 23));
        s.due("told", 0, b::told);
        s.refused("beyond it along x", b, OUTSIDE, () -> b.via(1000, 32, 23));
        s.refused("beyond it along y", b, OUTSIDE, () -> b.via(1000, 31, 24));
        s.refused("too near", b, CLASH, () -> b.via(1002, 30, 22));
        s.due("just not too near", 3002, () -> b.via(1002, 29, 23));
        b.begin(0, 0, 0, 0);
        s.refused("in an act's region", b, BARRED, () -> b.via(1000, 0, 0));
        s.due("just not in it", 3003, () -> b.via(1000, 1, 0));
        for (int n = 4; n < 60; n++) {
            b.via(1000, 1, 0);
        }
        s.refused("the sixty-first", b, FULL, () -> b.via(1000, 1, 0));
    }

    private static void viaThrows() {
        BoardHouse b = Sentences.oneOfEach();
        for (int h : Sentences.NOT_GIVEN) {
            s.index("net " + h, () -> b.via(h, 5, 5));
        }
        for (int h : Sentences.ofOtherKind(1)) {
            s.argument("net " + h, () -> b.via(h, 5, 5));
        }
        s.due("none was made", 2, () -> b.count(3));
        s.due("the last net", 3002, () -> b.via(1002, 5, 5));
    }

    private static void track() {
        BoardHouse b = house(2, 1);
        s.due("of one cell", 4000, () -> b.track(1000, 0, 31, 23, 31, 23));
        s.due("along all of x", 4001, () -> b.track(1000, 0, 0, 0, 31, 0));
        s.due("along all of y, turned", 4002, () -> b.track(1000, 1, 0, 23, 0, 0));
        s.due("its y", 0, () -> b.at(4002, 2));
        s.due("told", 0, b::told);
        s.refused("beyond x", b, OUTSIDE, () -> b.track(1000, 0, 0, 0, 32, 0));
        s.refused("beyond y", b, OUTSIDE, () -> b.track(1000, 0, 0, 24, 0, 0));
        s.refused("ahead of x", b, OUTSIDE, () -> b.track(1000, 0, 5, 0, -1, 0));
        s.refused("ahead of y", b, OUTSIDE, () -> b.track(1000, 0, 5, -1, 5, 5));
        s.refused("too near by its end", b, CLASH, () -> b.track(1001, 0, 31, 10, 31, 22));
        s.due("just not too near", 4003, () -> b.track(1001, 0, 31, 10, 31, 21));
        b.begin(20, 20, 21, 21);
        s.refused("in an act's region by its end", b, BARRED, () -> b.track(1001, 1, 10, 20, 20, 20));
        s.due("just not in it", 4004, () -> b.track(1001, 1, 10, 20, 19, 20));
        for (int n = 5; n < 60; n++) {
            b.track(1000, 0, 0, 0, 31, 0);
        }
        s.refused("the sixty-first", b, FULL, () -> b.track(1000, 0, 0, 0, 31, 0));
    }

    private static void trackThrows() {
        BoardHouse b = Sentences.oneOfEach();
        for (int h : Sentences.NOT_GIVEN) {
            s.index("net " + h, () -> b.track(h, 0, 5, 5, 5, 5));
        }
        for (int h : Sentences.ofOtherKind(1)) {
            s.argument("net " + h, () -> b.track(h, 0, 5, 5, 5, 5));
        }
        s.due("none was made", 1, () -> b.count(4));
    }

    private static void trackLayer() {
        for (int layers = 1; layers <= 4; layers++) {
            BoardHouse b = house(layers, 0);
            int most = layers;
            for (int layer : new int[] {MIN, -1, most, most + 1, MAX}) {
                s.index("layer " + layer + " of " + most, () -> b.track(1000, layer, 5, 5, 5, 5));
            }
            s.due("the first layer", 4000, () -> b.track(1000, 0, 5, 5, 5, 5));
            s.due("the last layer", 4001, () -> b.track(1000, most - 1, 5, 5, 5, 5));
        }
    }

    private static void trackSlants() {
        BoardHouse b = house(1, 0);
        int[][] slant = {{5, 5, 6, 6}, {5, 5, 4, 4}, {5, 5, 4, 6}, {5, 5, 6, 4}, {0, 0, 31, 23}, {40, 0, 41, 1}, {MIN, MAX, MAX, MIN}};
        for (int[] p : slant) {
            s.argument("to " + p[2] + " " + p[3], () -> b.track(1000, 0, p[0], p[1], p[2], p[3]));
        }
        s.due("x alone differs", 4000, () -> b.track(1000, 0, 5, 5, 6, 5));
        s.due("y alone differs", 4001, () -> b.track(1000, 0, 5, 5, 5, 6));
        s.due("neither differs", 4002, () -> b.track(1000, 0, 5, 5, 5, 5));
    }

    private static void plane() {
        BoardHouse b = house(2, 4);
        b.via(1001, 5, 5);
        s.due("on the first layer, whatever is there", 5000, () -> b.plane(1000, 0));
        s.due("told", 0, b::told);
        s.refused("on it again", b, OVERLAP, () -> b.plane(1001, 0));
        b.begin(0, 0, 0, 0);
        s.refused("while an act is open", b, BARRED, () -> b.plane(1000, 1));
        b.end(6000, true);
        s.due("on the last layer", 5001, () -> b.plane(1001, 1));
        s.due("its net", 1001, () -> b.at(5001, 4));
        for (int n = 2; n < 10; n++) {
            b.drop(5000 + n - 1);
            b.plane(1000, 1);
        }
        b.drop(5009);
        s.refused("the eleventh", b, FULL, () -> b.plane(1000, 1));
    }

    private static void planeThrows() {
        BoardHouse b = Sentences.oneOfEach();
        b.end(6000, true);
        for (int h : Sentences.NOT_GIVEN) {
            s.index("net " + h, () -> b.plane(h, 1));
        }
        for (int h : Sentences.ofOtherKind(1)) {
            s.argument("net " + h, () -> b.plane(h, 1));
        }
        for (int layer : new int[] {MIN, -1, 2, 3, 4, MAX}) {
            s.index("layer " + layer, () -> b.plane(1000, layer));
        }
        s.due("none was made", 1, () -> b.count(5));
        s.due("the last layer", 5001, () -> b.plane(1000, 1));
    }

    private static void move() {
        BoardHouse b = house(1, 0);
        b.part(3, 2, 10, 10, 0);
        b.pad(2000, 1000, 0, 0);
        b.pad(2000, 1001, 2, 1);
        b.via(1000, 10, 11);
        int[][] to = {{0, 0}, {29, 0}, {0, 22}, {29, 22}, {28, 22}, {28, 22}};
        for (int[] p : to) {
            s.due("to " + p[0] + " " + p[1], true, () -> b.move(2000, p[0], p[1]));
            s.due("told", 0, b::told);
            s.due("x", p[0], () -> b.at(2000, 1));
            s.due("y", p[1], () -> b.at(2000, 2));
            s.due("first pad's x", p[0], () -> b.at(3000, 1));
            s.due("first pad's y", p[1], () -> b.at(3000, 2));
            s.due("last pad's x", p[0] + 2, () -> b.at(3001, 1));
            s.due("last pad's y", p[1] + 1, () -> b.at(3001, 2));
        }
        s.due("a via in it stays", 10, () -> b.at(3002, 1));
        b.part(1, 1, 0, 0, 0);
        s.due("a part without pads", true, () -> b.move(2001, 31, 0));
    }

    private static void moveRefused() {
        BoardHouse b = house(1, 1);
        b.part(3, 2, 10, 10, 0);
        b.pad(2000, 1000, 0, 0);
        b.part(2, 2, 20, 10, 0);
        b.via(1001, 5, 20);
        b.begin(0, 0, 1, 1);
        int[][] out = {{-1, 5}, {5, -1}, {30, 5}, {5, 23}, {MIN, 5}, {5, MIN}, {MAX, 5}, {5, MAX}, {MAX - 1, 5}, {5, MAX - 1}};
        for (int[] p : out) {
            s.refused("to " + p[0] + " " + p[1], b, OUTSIDE, () -> b.move(2000, p[0], p[1]));
        }
        s.refused("into an act's region by a cell", b, BARRED, () -> b.move(2000, 1, 1));
        s.refused("onto a part by a cell", b, OVERLAP, () -> b.move(2000, 18, 9));
        s.refused("near another net's via", b, CLASH, () -> b.move(2000, 6, 21));
        s.due("its x stays", 10, () -> b.at(2000, 1));
        s.due("its pad's, too", 10, () -> b.at(3000, 1));
        s.due("just not into the region", true, () -> b.move(2000, 2, 1));
        s.due("just not onto the part", true, () -> b.move(2000, 17, 9));
        s.due("just not near the via", true, () -> b.move(2000, 7, 21));
    }

    private static void moveNotGiven() {
        BoardHouse b = Sentences.oneOfEach();
        for (int h : Sentences.NOT_GIVEN) {
            s.index("part " + h, () -> b.move(h, 5, 5));
        }
        s.due("one that was", true, () -> b.move(2000, 5, 5));
    }

    private static void moveOtherKind() {
        BoardHouse b = Sentences.oneOfEach();
        for (int h : Sentences.ofOtherKind(2)) {
            s.argument("part " + h, () -> b.move(h, 5, 5));
        }
        s.due("its via stays", 9, () -> b.at(3001, 1));
    }

    private static void moveNotThere() {
        BoardHouse b = house(1, 0);
        b.version();
        b.part(1, 1, 0, 0, 0);
        b.drop(2000);
        s.state("dropped", () -> b.move(2000, 5, 5));
        s.state("dropped, to where it was", () -> b.move(2000, 0, 0));
        b.part(1, 1, 0, 0, 0);
        b.back(7000);
        s.state("made since a version", () -> b.move(2001, 5, 5));
        s.due("its x", 0, () -> b.at(2001, 1));
    }

    private static void drop() {
        BoardHouse b = house(1, 0);
        b.part(2, 2, 0, 0, 0);
        b.part(2, 2, 4, 0, 0);
        b.pad(2000, 1000, 0, 0);
        b.pad(2001, 1000, 0, 0);
        b.pad(2000, 1000, 1, 1);
        b.via(1000, 1, 0);
        s.due("a pad alone", true, () -> b.drop(3000));
        s.due("its part stays", 1, () -> b.at(2000, 0));
        s.due("a part", true, () -> b.drop(2000));
        s.due("told", 0, b::told);
        int[][] want = {{2000, 0}, {2001, 1}, {3000, 0}, {3001, 1}, {3002, 0}, {3003, 1}};
        for (int[] w : want) {
            s.due("there of " + w[0], w[1], () -> b.at(w[0], 0));
        }
        s.due("a part without pads there", true, () -> b.drop(3001) && b.drop(2001));
        s.due("no part", 0, () -> b.count(2));
        s.due("the via alone", 1, () -> b.count(3));
    }

    private static void dropRefused() {
        BoardHouse b = house(1, 0);
        b.part(3, 2, 10, 10, 0);
        b.pad(2000, 1000, 0, 0);
        b.via(1000, 5, 5);
        b.track(1000, 0, 12, 5, 12, 11);
        b.plane(1000, 0);
        b.begin(12, 11, 12, 11);
        for (int h : new int[] {2000, 4000, 5000}) {
            s.refused("drop of " + h, b, BARRED, () -> b.drop(h));
            s.due(h + " is there", 1, () -> b.at(h, 0));
        }
        s.due("the part's pad is there", 1, () -> b.at(3000, 0));
        s.due("a pad that is not in the region", true, () -> b.drop(3000));
        s.due("a via that is not in it", true, () -> b.drop(3001));
        b.end(6000, true);
        s.due("when it is ended", true, () -> b.drop(2000));
    }

    private static void dropThrows() {
        BoardHouse b = Sentences.oneOfEach();
        for (int h : Sentences.NOT_GIVEN) {
            s.index("drop of " + h, () -> b.drop(h));
        }
        b.end(6000, true);
        for (int h : new int[] {2000, 3001, 4000, 5000}) {
            b.drop(h);
            s.state("a second drop of " + h, () -> b.drop(h));
        }
        s.state("a dropped part's pad", () -> b.drop(3000));
    }

    private static void dropNoThing() {
        BoardHouse b = Sentences.oneOfEach();
        s.argument("a net", () -> b.drop(1000));
        s.argument("the last net", () -> b.drop(1002));
        s.argument("an open act", () -> b.drop(6000));
        s.argument("a version", () -> b.drop(7000));
        b.end(6000, true);
        s.argument("an ended act", () -> b.drop(6000));
        s.due("the net stays", 3002, () -> b.via(1002, 5, 5));
    }
}
