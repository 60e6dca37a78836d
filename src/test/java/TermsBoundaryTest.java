import java.util.concurrent.Callable;
import java.util.function.Function;
import java.util.function.ToIntFunction;

/** The boundary cases that the document's Terms name, sentence by sentence. */
public final class TermsBoundaryTest {
    private static final int MIN = Sentences.MIN;
    private static final int MAX = Sentences.MAX;
    private static final int FULL = Sentences.FULL;
    private static final int OUTSIDE = Sentences.OUTSIDE;
    private static final int BARRED = Sentences.BARRED;
    private static final int OVERLAP = Sentences.OVERLAP;
    private static final int CLASH = Sentences.CLASH;
    private static final int[][] EIGHT_WAYS = {{1, 0}, {-1, 0}, {0, 1}, {0, -1}, {1, 1}, {1, -1}, {-1, 1}, {-1, -1}};
    private static final Sentences s = new Sentences();

    public static void main(String[] args) {
        board();
        things();
        copper();
        planes();
        acts();
        refusals();
        s.finish("TermsBoundaryTest");
    }

    private static void board() {
        s.test("What it is", "An object is used for at most 512 calls", TermsBoundaryTest::lastCall);
        s.test("Terms", "CELLS are x 0 .. 31, y 0 .. 23", TermsBoundaryTest::cells);
        s.test("Terms", "on LAYERS 0 .. layers - 1", TermsBoundaryTest::layers);
        s.test("Terms", "(1 to 4; what is told below is 1, above 4)", TermsBoundaryTest::layersHeld);
        s.test("Terms", "A HANDLE is 1,000 times a KIND and a number, from 0 on", TermsBoundaryTest::firstHandles);
        s.test("Terms", "that is not used again", TermsBoundaryTest::notUsedAgain);
        s.test("Terms", "1 nets (at most 20)", TermsBoundaryTest::twentyNets);
        s.test("Terms", "2 parts (20)", TermsBoundaryTest::twentyParts);
        s.test("Terms", "3 pads and vias (60)", TermsBoundaryTest::sixtyPoints);
        s.test("Terms", "4 tracks (60)", TermsBoundaryTest::sixtyTracks);
        s.test("Terms", "5 planes (10)", TermsBoundaryTest::tenPlanes);
        s.test("Terms", "6 acts (10)", TermsBoundaryTest::tenActs);
        s.test("Terms", "7 versions (8)", TermsBoundaryTest::eightVersions);
    }

    private static void things() {
        s.test("Terms", "A THING (of KINDS 2 to 5) is THERE until it is dropped.", TermsBoundaryTest::thereUntilDropped);
        s.test("Terms", "A PART is a rectangle of w by h CELLS (1 .. 8) from x, y on", TermsBoundaryTest::rectangle);
        s.test("Terms", "on SIDE 0 or 1", TermsBoundaryTest::sides);
        s.test("Terms", "A PAD is at a CELL of its part", TermsBoundaryTest::padInPart);
        s.test("Terms", "A TRACK is a row of CELLS of a layer, along x or y.", TermsBoundaryTest::rows);
    }

    private static void copper() {
        s.test("Terms", "a pad or via has its CELL on all layers", TermsBoundaryTest::pointsOnAllLayers);
        s.test("Terms", "a track its own", TermsBoundaryTest::tracksOnTheirOwn);
        s.test("Terms", "Two CELLS of one layer are NEAR, when they differ along x and along y by the GAP (0 .. 4) at most",
                TermsBoundaryTest::nearByGap);
        s.test("Terms, at the board's edges", "when they differ along x and along y", TermsBoundaryTest::nearNotRoundTheEdges);
        s.test("Terms", "COPPER of two THINGS CLASHES when it is of two nets and has CELLS that are NEAR",
                TermsBoundaryTest::ofTwoNets);
    }

    private static void planes() {
        s.test("Terms", "A PLANE, at most one THERE on a layer", TermsBoundaryTest::onePlane);
        s.test("Terms", "it FILLS all CELLS of its layer that are NEAR no COPPER of other nets", TermsBoundaryTest::fillsAll);
        s.test("Terms", "and to which one comes from COPPER of its net", TermsBoundaryTest::fillsFromCopper);
        s.test("Terms", "(that lies on such CELLS)", TermsBoundaryTest::fillsFromSuchCells);
        s.test("Terms", "by steps to CELLS beside (along x or y) that are such, too", TermsBoundaryTest::fillsBySteps);
        s.test("Terms", "ISLANDS of a net: its COPPER, and what its PLANES FILL", TermsBoundaryTest::islandsOfPlanes);
        s.test("Terms", "CELLS beside one another on a layer belong together", TermsBoundaryTest::islandsBeside);
        s.test("Terms", "and all CELLS of a pad or via", TermsBoundaryTest::islandsOverLayers);
    }

    private static void acts() {
        s.test("Terms", "AN ACT holds a region of CELLS (of all layers) until it is ended.", TermsBoundaryTest::heldUntilEnded);
        s.test("Terms", "A call that changes works in the act that was told last by work(), or in none",
                TermsBoundaryTest::worksInTheLast);
        s.test("Terms", "all CELLS of the THINGS it makes", TermsBoundaryTest::madeInRegion);
        s.test("Terms", "moves (as they were and will be)", TermsBoundaryTest::movedInRegion);
        s.test("Terms", "or drops must lie in its region (if it works in one)", TermsBoundaryTest::droppedInRegion);
        s.test("Terms", "and in that of no other open act", TermsBoundaryTest::inNoOthers);
        s.test("Terms", "a plane has all CELLS of the board", TermsBoundaryTest::planeHasAll);
        s.test("Terms", "a part those of its rectangle, and its pads'", TermsBoundaryTest::partHasItsRectangle);
    }

    private static void refusals() {
        s.test("Terms", "A call that changes and can't be is REFUSED, changes nothing", TermsBoundaryTest::changesNothing);
        s.test("Terms, when no handle is left", "changes nothing", TermsBoundaryTest::changesNothingWhenFull);
        s.test("Terms, in an act", "changes nothing", TermsBoundaryTest::changesNothingOfAnAct);
        s.test("Terms", "the first that holds: 1 FULL, no handle is left", TermsBoundaryTest::fullIsFirst);
        s.test("Terms", "2 OUTSIDE, a CELL is none of the board (of its part, for pads)", TermsBoundaryTest::outsideIsNext);
        s.test("Terms", "3 BARRED, by an act's region", TermsBoundaryTest::barredIsNext);
        s.test("Terms", "4 OVERLAP, a part's rectangle and that of another one on its SIDE have a CELL in common",
                TermsBoundaryTest::overlap);
        s.test("Terms", "or a plane is THERE on that layer", TermsBoundaryTest::overlapOfPlanes);
        s.test("Terms", "5 CLASH, COPPER that it makes or moves CLASHES with some that is THERE", TermsBoundaryTest::clash);
        s.test("Terms", "(what moves with it not counted)", TermsBoundaryTest::clashNotWithItself);
        s.test("Terms", "IndexOutOfBoundsException is thrown ahead of IllegalArgumentException", TermsBoundaryTest::indexFirst);
        s.test("Terms", "that ahead of IllegalStateException", TermsBoundaryTest::argumentNext);
        s.test("Terms", "all ahead of what REFUSES", TermsBoundaryTest::throwsAheadOfRefusing);
        s.test("Terms", "`NONE = -1`: It was refused.", () -> s.due("NONE", -1, () -> BoardHouse.NONE));
    }

    private static BoardHouse house(int layers, int gap) {
        return Sentences.house(layers, gap);
    }

    /** Vias that are dropped and brought back until the 512th call, which is the last told() here. */
    private static void lastCall() {
        BoardHouse b = house(4, 4);
        b.plane(1000, 3);
        for (int n = 0; n < 60; n++) {
            b.via(1000, n % 32, n / 32);
        }
        b.version();
        int before = 3 + 1 + 60 + 1;
        for (int call = before; call < 506; call += 2) {
            b.drop(3000 + call % 60);
            b.back(7000);
        }
        s.due("islands near the last call", 1, () -> b.islands(1000));
        s.due("filled near the last call", 768, () -> b.filled(5000));
        s.due("count near the last call", 60, () -> b.count(3));
        s.refused("near the last call", b, FULL, () -> b.via(1000, 0, 0));
    }

    private static void cells() {
        BoardHouse b = house(1, 0);
        int[][] in = {{0, 0}, {31, 0}, {0, 23}, {31, 23}};
        for (int i = 0; i < in.length; i++) {
            int[] p = in[i];
            s.due("via at " + p[0] + " " + p[1], 3000 + i, () -> b.via(1000, p[0], p[1]));
        }
        int[][] out = {
            {-1, 0}, {0, -1}, {32, 0}, {0, 24}, {-1, 23}, {31, -1}, {32, 23}, {31, 24}, {32, 24}, {-1, -1},
            {MIN, 0}, {0, MIN}, {MAX, 0}, {0, MAX}, {MIN, MAX}};
        for (int[] p : out) {
            s.refused("via at " + p[0] + " " + p[1], b, OUTSIDE, () -> b.via(1000, p[0], p[1]));
        }
        s.due("vias", 4, () -> b.count(3));
    }

    private static void layers() {
        for (int n = 1; n <= 4; n++) {
            int most = n;
            BoardHouse b = house(n, 0);
            for (int layer = 0; layer < n; layer++) {
                int l = layer;
                s.due("track on " + l + " of " + n, 4000 + l, () -> b.track(1000, l, 0, 0, 0, 0));
                s.due("plane on " + l + " of " + n, 5000 + l, () -> b.plane(1000, l));
                s.due("its layer", l, () -> b.at(5000 + l, 3));
            }
            for (int layer : new int[] {-1, most, MIN, MAX}) {
                s.index("track on " + layer + " of " + n, () -> b.track(1000, layer, 0, 0, 0, 0));
                s.index("plane on " + layer + " of " + n, () -> b.plane(1000, layer));
            }
        }
    }

    private static void layersHeld() {
        int[][] held = {{MIN, 1}, {-1, 1}, {0, 1}, {1, 1}, {4, 4}, {5, 4}, {6, 4}, {MAX, 4}};
        for (int[] h : held) {
            BoardHouse b = house(h[0], 0);
            s.due("the last layer of " + h[0], 4000, () -> b.track(1000, h[1] - 1, 0, 0, 0, 0));
            s.index("one beyond it", () -> b.track(1000, h[1], 0, 0, 0, 0));
        }
    }

    private static void firstHandles() {
        BoardHouse b = new BoardHouse(2, 0);
        for (int i = 0; i < 2; i++) {
            int n = i;
            s.due("net", 1000 + n, b::net);
            s.due("part", 2000 + n, () -> b.part(1, 1, n, 0, 0));
            s.due("pad", 3000 + 2 * n, () -> b.pad(2000, 1000, 0, 0));
            s.due("via", 3001 + 2 * n, () -> b.via(1000, 5, 5));
            s.due("track", 4000 + n, () -> b.track(1000, 0, 5, 5, 5, 5));
            s.due("plane", 5000 + n, () -> b.plane(1000, n));
            s.due("version", 7000 + n, b::version);
            s.due("act", 6000 + n, () -> b.begin(20, 20, 20, 20));
            b.end(6000 + n, true);
        }
    }

    private static void notUsedAgain() {
        BoardHouse b = Sentences.oneOfEach();
        b.end(6000, true);
        for (int h : new int[] {2000, 3001, 4000, 5000}) {
            b.drop(h);
        }
        s.due("a part after a drop", 2001, () -> b.part(1, 1, 0, 0, 0));
        s.due("a via after a drop", 3002, () -> b.via(1000, 9, 9));
        s.due("a track after a drop", 4001, () -> b.track(1000, 0, 0, 0, 0, 0));
        s.due("a plane after a drop", 5001, () -> b.plane(1000, 0));
        b.begin(0, 0, 31, 23);
        b.work(6001);
        b.part(1, 1, 9, 0, 0);
        b.via(1000, 20, 9);
        b.end(6001, false);
        s.due("a part after an undoing", 2003, () -> b.part(1, 1, 9, 0, 0));
        s.due("a via after an undoing", 3004, () -> b.via(1000, 9, 9));
        b.back(7000);
        s.due("a part after back", 2004, () -> b.part(1, 1, 9, 0, 0));
        s.due("a via after back", 3005, () -> b.via(1000, 9, 9));
        s.due("an act after one was ended", 6002, () -> b.begin(0, 0, 0, 0));
        b.end(6002, true);
        s.due("a version after back", 7001, b::version);
        b.via(1000, 40, 0);
        Answers.of(() -> b.via(1003, 0, 0));
        s.due("a refused call and one that throws take none", 3006, () -> b.via(1000, 9, 9));
    }

    /** Makes all but the last, then the last, then one too many. */
    private static void limit(BoardHouse b, int kind, int most, Callable<Integer> make) {
        for (int n = 0; n < most; n++) {
            s.due("number " + n, 1000 * kind + n, make);
            s.due("number " + n + " told", 0, b::told);
        }
        s.refused("one too many", b, FULL, make);
        s.refused("and again", b, FULL, make);
    }

    private static void twentyNets() {
        BoardHouse b = new BoardHouse(1, 0);
        limit(b, 1, 20, b::net);
        s.due("the last is a net", 3000, () -> b.via(1019, 0, 0));
        s.index("one beyond it is none", () -> b.via(1020, 0, 0));
    }

    private static void twentyParts() {
        BoardHouse b = house(1, 0);
        limit(b, 2, 20, () -> b.part(1, 1, b.count(2), 0, 0));
        s.due("the last is a part", 19, () -> b.at(2019, 1));
        s.due("the last has pads", 3000, () -> b.pad(2019, 1000, 0, 0));
        b.drop(2003);
        s.refused("a drop gives none back", b, FULL, () -> b.part(1, 1, 3, 0, 0));
        s.due("others are not full", 4000, () -> b.track(1000, 0, 0, 0, 0, 0));
    }

    private static void sixtyPoints() {
        BoardHouse b = house(1, 0);
        b.part(2, 2, 0, 0, 0);
        int[] calls = {0};
        limit(b, 3, 60, () -> calls[0]++ % 2 == 0 ? b.via(1000, 5, 5) : b.pad(2000, 1000, 1, 1));
        s.due("the last is there", 1, () -> b.at(3059, 0));
        s.refused("no via", b, FULL, () -> b.via(1000, 5, 5));
        s.refused("no pad", b, FULL, () -> b.pad(2000, 1000, 0, 0));
        b.drop(3059);
        b.drop(2000);
        s.refused("a drop gives none back", b, FULL, () -> b.via(1000, 5, 5));
        s.due("others are not full", 4000, () -> b.track(1000, 0, 0, 0, 0, 0));
    }

    private static void sixtyTracks() {
        BoardHouse b = house(1, 0);
        limit(b, 4, 60, () -> b.track(1000, 0, 5, 5, 5, 9));
        s.due("the last is there", 1, () -> b.at(4059, 0));
        s.due("the last can be dropped", true, () -> b.drop(4059));
        s.refused("a drop gives none back", b, FULL, () -> b.track(1000, 0, 5, 5, 5, 9));
        s.due("others are not full", 3000, () -> b.via(1000, 5, 5));
    }

    private static void tenPlanes() {
        BoardHouse b = house(1, 0);
        b.via(1000, 0, 0);
        int[] last = {-1};
        limit(b, 5, 10, () -> {
            if (last[0] >= 5000 && b.at(last[0], 0) == 1) {
                b.drop(last[0]);
            }
            int made = b.plane(1000, 0);
            last[0] = made == -1 ? last[0] : made;
            return made;
        });
        s.due("no plane is there", 0, () -> b.count(5));
        s.state("the last was one", () -> b.filled(5009));
    }

    private static void tenActs() {
        BoardHouse open = house(1, 0);
        int[] x = {0};
        limit(open, 6, 10, () -> open.begin(x[0], 0, x[0]++, 23));
        s.due("the last is an act", true, () -> open.work(6009));
        s.due("it holds its region", 3000, () -> open.via(1000, 9, 9));
        BoardHouse ended = house(1, 0);
        for (int n = 0; n < 10; n++) {
            ended.begin(0, 0, 31, 23);
            ended.end(6000 + n, n % 2 == 0);
        }
        s.refused("an end gives none back", ended, FULL, () -> ended.begin(0, 0, 31, 23));
    }

    private static void eightVersions() {
        BoardHouse b = house(1, 0);
        limit(b, 7, 8, b::version);
        s.due("the last is a version", 0, () -> b.back(7007));
        s.refused("back gives none back", b, FULL, b::version);
    }

    private static void thereUntilDropped() {
        BoardHouse b = Sentences.oneOfEach();
        b.end(6000, true);
        for (int h : new int[] {5000, 4000, 3001, 2000}) {
            s.due(h + " is there", 1, () -> b.at(h, 0));
            s.due("dropped", true, () -> b.drop(h));
            s.due(h + " is not there", 0, () -> b.at(h, 0));
        }
        s.due("nor is the part's pad", 0, () -> b.at(3000, 0));
        for (int kind = 2; kind <= 5; kind++) {
            int k = kind;
            s.due("none of kind " + k, 0, () -> b.count(k));
        }
    }

    private static void rectangle() {
        int[][] in = {{1, 1, 31, 23}, {8, 8, 24, 16}, {8, 8, 0, 0}, {8, 1, 24, 23}, {1, 8, 31, 16}, {5, 3, 27, 21}};
        for (int[] p : in) {
            BoardHouse b = house(1, 0);
            String what = p[0] + " by " + p[1];
            s.due(what + " at " + p[2] + " " + p[3], 2000, () -> b.part(p[0], p[1], p[2], p[3], 0));
            s.due(what + " has its last cell", 3000, () -> b.pad(2000, 1000, p[0] - 1, p[1] - 1));
            s.due("at x", p[2] + p[0] - 1, () -> b.at(3000, 1));
            s.due("at y", p[3] + p[1] - 1, () -> b.at(3000, 2));
            s.refused(what + " has no cell more along x", b, OUTSIDE, () -> b.pad(2000, 1000, p[0], 0));
            s.refused(what + " has no cell more along y", b, OUTSIDE, () -> b.pad(2000, 1000, 0, p[1]));
        }
        BoardHouse b = house(1, 0);
        int[][] out = {
            {1, 1, 32, 23}, {1, 1, 31, 24}, {8, 8, 25, 16}, {8, 8, 24, 17}, {8, 1, 25, 23}, {1, 8, 31, 17}, {8, 8, -1, 0},
            {8, 8, 0, -1}, {8, 8, -7, 0}, {8, 8, MAX, 0}, {8, 8, 0, MAX}, {8, 8, MAX - 6, 0}, {8, 8, 0, MAX - 6}, {8, 8, MIN, MIN}};
        for (int[] p : out) {
            s.refused("at " + p[2] + " " + p[3], b, OUTSIDE, () -> b.part(p[0], p[1], p[2], p[3], 0));
        }
    }

    private static void sides() {
        BoardHouse b = house(4, 0);
        s.due("side 0", 2000, () -> b.part(8, 8, 0, 0, 0));
        s.due("side 1", 2001, () -> b.part(8, 8, 0, 0, 1));
        s.due("is 0", 0, () -> b.at(2000, 3));
        s.due("is 1", 1, () -> b.at(2001, 3));
        for (int side : new int[] {-1, 2, 3, MIN, MAX}) {
            s.argument("side " + side, () -> b.part(1, 1, 20, 0, side));
        }
    }

    private static void padInPart() {
        BoardHouse b = house(1, 0);
        b.part(3, 2, 10, 10, 0);
        b.part(3, 2, 13, 10, 0);
        int[][] in = {{0, 0}, {2, 0}, {0, 1}, {2, 1}};
        for (int i = 0; i < in.length; i++) {
            int[] p = in[i];
            int n = 3000 + i;
            s.due("pad " + p[0] + " " + p[1], n, () -> b.pad(2000, 1000, p[0], p[1]));
            s.due("its x", 10 + p[0], () -> b.at(n, 1));
            s.due("its y", 10 + p[1], () -> b.at(n, 2));
        }
        int[][] out = {
            {-1, 0}, {0, -1}, {3, 0}, {0, 2}, {3, 2}, {-10, -10}, {21, 13}, {MIN, 0}, {0, MIN}, {MAX, 0}, {0, MAX},
            {MAX - 9, 0}, {0, MAX - 9}, {MIN + 10, MIN + 10}};
        for (int[] p : out) {
            s.refused("pad " + p[0] + " " + p[1], b, OUTSIDE, () -> b.pad(2000, 1000, p[0], p[1]));
        }
    }

    private static void rows() {
        int[][] in = {
            {0, 0, 31, 0}, {31, 23, 0, 23}, {0, 0, 0, 23}, {31, 23, 31, 0}, {7, 7, 7, 7}, {3, 5, 4, 5}, {4, 5, 3, 5}, {3, 5, 3, 4}};
        for (int[] p : in) {
            BoardHouse b = house(1, 0);
            String what = p[0] + " " + p[1] + " to " + p[2] + " " + p[3];
            s.due(what, 4000, () -> b.track(1000, 0, p[0], p[1], p[2], p[3]));
            s.due(what + " x", Math.min(p[0], p[2]), () -> b.at(4000, 1));
            s.due(what + " y", Math.min(p[1], p[3]), () -> b.at(4000, 2));
            s.refused(what + " has its first cell", b, CLASH, () -> b.via(1001, p[0], p[1]));
            s.refused(what + " has its last cell", b, CLASH, () -> b.via(1001, p[2], p[3]));
            s.refused(what + " has those between", b, CLASH, () -> b.via(1001, (p[0] + p[2]) / 2, (p[1] + p[3]) / 2));
            beyondRow(b, Math.min(p[0], p[2]) - 1, p[1]);
            beyondRow(b, Math.max(p[0], p[2]) + 1, p[1]);
            beyondRow(b, p[0], Math.min(p[1], p[3]) - 1);
            beyondRow(b, p[0], Math.max(p[1], p[3]) + 1);
        }
        BoardHouse b = house(1, 0);
        int[][] out = {
            {0, 0, 32, 0}, {-1, 0, 5, 0}, {32, 0, 0, 0}, {0, 0, 0, 24}, {0, 5, 0, -1}, {0, 24, 31, 24}, {32, 0, 32, 23},
            {MIN, 0, MAX, 0}, {0, MAX, 0, MIN}, {MAX, 0, MIN, 0}, {-1, -1, -1, -1}};
        for (int[] p : out) {
            s.refused("from " + p[0] + " " + p[1], b, OUTSIDE, () -> b.track(1000, 0, p[0], p[1], p[2], p[3]));
        }
        int[][] slant = {{0, 0, 1, 1}, {5, 5, 4, 6}, {0, 0, 31, 23}, {MIN, MIN, MAX, MAX}};
        for (int[] p : slant) {
            s.argument("slanting from " + p[0], () -> b.track(1000, 0, p[0], p[1], p[2], p[3]));
        }
    }

    /** A cell beyond an end or beside a track is none of its cells. */
    private static void beyondRow(BoardHouse b, int x, int y) {
        boolean onBoard = x >= 0 && x <= 31 && y >= 0 && y <= 23;
        s.due("not at " + x + " " + y, onBoard, () -> b.via(1001, x, y) != -1);
    }

    private static void pointsOnAllLayers() {
        for (int n = 1; n <= 4; n++) {
            BoardHouse b = house(n, 0);
            b.via(1000, 5, 5);
            b.part(1, 1, 9, 9, 1);
            b.pad(2000, 1000, 0, 0);
            for (int layer = 0; layer < n; layer++) {
                int l = layer;
                s.refused("a track on the via on layer " + l, b, CLASH, () -> b.track(1001, l, 5, 5, 5, 5));
                s.refused("a track on the pad on layer " + l, b, CLASH, () -> b.track(1001, l, 9, 9, 9, 9));
                b.track(1000, l, 20, l, 20, l);
                s.refused("a via on a track of layer " + l, b, CLASH, () -> b.via(1001, 20, l));
            }
            s.refused("a via on the pad", b, CLASH, () -> b.via(1001, 9, 9));
        }
    }

    private static void tracksOnTheirOwn() {
        for (int layer = 0; layer < 4; layer++) {
            BoardHouse b = house(4, 4);
            int own = layer;
            b.track(1000, own, 5, 5, 9, 5);
            for (int other = 0; other < 4; other++) {
                int l = other;
                if (l == own) {
                    s.refused("on its own layer " + l, b, CLASH, () -> b.track(1001, l, 5, 5, 9, 5));
                } else {
                    s.due("on layer " + l + " over " + own, true, () -> b.track(1001, l, 5, 5, 9, 5) != -1);
                }
            }
            s.due("none clash", 0, b::check);
        }
    }

    private static void nearByGap() {
        for (int gap = 0; gap <= 4; gap++) {
            int g = gap;
            for (int[] way : EIGHT_WAYS) {
                viaAside(g, g * way[0], g * way[1], false);
                viaAside(g, (g + 1) * way[0], (g + 1) * way[1], true);
            }
            viaAside(g, g, g + 1, true);
            viaAside(g, g + 1, g, true);
            viaAside(g, -g, -g - 1, true);
            viaAside(g, -g - 1, -g, true);
            // The ends of tracks, which have more cells than one.
            BoardHouse b = house(1, g);
            b.track(1000, 0, 10, 10, 14, 10);
            s.refused("a track that ends near", b, CLASH, () -> b.track(1001, 0, 14 + g, 10 + g, 31, 10 + g));
            s.due("a track that ends one further", 4001, () -> b.track(1001, 0, 15 + g, 10, 31, 10));
            s.due("a track a row further", 4002, () -> b.track(1001, 0, 0, 11 + g, 14, 11 + g));
            s.refused("a track that goes through", b, CLASH, () -> b.track(1001, 0, 12, 0, 12, 23));
        }
    }

    private static void viaAside(int gap, int dx, int dy, boolean isFree) {
        BoardHouse b = house(1, gap);
        b.via(1000, 16, 12);
        String what = "gap " + gap + ", aside by " + dx + " " + dy;
        if (isFree) {
            s.due(what, 3001, () -> b.via(1001, 16 + dx, 12 + dy));
            s.due(what + " told", 0, b::told);
        } else {
            s.refused(what, b, CLASH, () -> b.via(1001, 16 + dx, 12 + dy));
        }
    }

    private static void nearNotRoundTheEdges() {
        BoardHouse b = house(1, 4);
        b.via(1000, 0, 12);
        b.via(1000, 16, 0);
        int[][] far = {{31, 11}, {31, 12}, {31, 13}, {15, 23}, {16, 23}, {17, 23}};
        for (int[] p : far) {
            s.due("at the other edge " + p[0] + " " + p[1], true, () -> b.via(1001, p[0], p[1]) != -1);
        }
        s.due("none clash", 0, b::check);
    }

    private static void ofTwoNets() {
        BoardHouse b = house(2, 4);
        b.part(2, 2, 5, 5, 0);
        s.due("a pad", 3000, () -> b.pad(2000, 1000, 0, 0));
        s.due("one of its net in its cell", 3001, () -> b.pad(2000, 1000, 0, 0));
        s.due("a via of its net in its cell", 3002, () -> b.via(1000, 5, 5));
        s.due("a track of its net in its cell", 4000, () -> b.track(1000, 1, 5, 5, 9, 5));
        s.due("another", 4001, () -> b.track(1000, 1, 5, 5, 9, 5));
        s.due("none clash", 0, b::check);
        s.refused("a pad of another net", b, CLASH, () -> b.pad(2000, 1001, 1, 1));
        s.refused("a via of another net", b, CLASH, () -> b.via(1002, 5, 5));
        s.refused("a track of another net", b, CLASH, () -> b.track(1001, 0, 9, 9, 9, 9));
        s.due("parts have no copper", 2001, () -> b.part(1, 1, 7, 7, 0));
        s.due("nor have planes", 5000, () -> b.plane(1001, 0));
    }

    private static void onePlane() {
        BoardHouse b = house(2, 0);
        s.due("the first", 5000, () -> b.plane(1000, 0));
        s.refused("a second of its net", b, OVERLAP, () -> b.plane(1000, 0));
        s.refused("a second of another net", b, OVERLAP, () -> b.plane(1001, 0));
        s.due("on the other layer", 5001, () -> b.plane(1000, 1));
        s.due("dropped", true, () -> b.drop(5000));
        s.due("when it is not there", 5002, () -> b.plane(1001, 0));
        s.refused("a second again", b, OVERLAP, () -> b.plane(1000, 0));
    }

    private static void fillsAll() {
        for (int gap = 0; gap <= 4; gap++) {
            int g = gap;
            int wide = 2 * g + 1;
            fillsBut(g, 0, 0, 16, 12, wide * wide);
            fillsBut(g, 0, 0, 31, 12, (g + 1) * wide);
            fillsBut(g, 31, 23, 0, 12, (g + 1) * wide);
            fillsBut(g, 0, 0, 16, 23, (g + 1) * wide);
            fillsBut(g, 31, 23, 16, 0, (g + 1) * wide);
            fillsBut(g, 0, 0, 31, 23, (g + 1) * (g + 1));
            fillsBut(g, 31, 23, 0, 0, (g + 1) * (g + 1));
            fillsBut(g, 31, 23, 31, 0, (g + 1) * (g + 1));
            fillsBut(g, 0, 0, 0, 23, (g + 1) * (g + 1));
            BoardHouse b = house(2, g);
            b.plane(1000, 1);
            b.via(1000, 0, 0);
            b.track(1001, 0, 10, 12, 14, 12);
            s.due("a track of another layer keeps nothing away", 768, () -> b.filled(5000));
            b.track(1001, 1, 10, 12, 14, 12);
            s.due("one of its layer does", 768 - (4 + wide) * wide, () -> b.filled(5000));
            b.track(1001, 1, 26, 12, 27, 12);
            s.due("and one more in that row", 768 - (4 + wide) * wide - (1 + wide) * wide, () -> b.filled(5000));
        }
    }

    private static void fillsBut(int gap, int x, int y, int otherX, int otherY, int away) {
        BoardHouse b = house(1, gap);
        b.plane(1000, 0);
        b.via(1000, x, y);
        s.due("nothing keeps it away", 768, () -> b.filled(5000));
        b.via(1001, otherX, otherY);
        s.due("gap " + gap + ", a via at " + otherX + " " + otherY, 768 - away, () -> b.filled(5000));
        b.drop(3001);
        s.due("when it is dropped", 768, () -> b.filled(5000));
    }

    private static void fillsFromCopper() {
        BoardHouse b = house(2, 0);
        b.plane(1000, 0);
        s.due("from nothing", 0, () -> b.filled(5000));
        b.via(1001, 5, 5);
        s.due("from copper of another net", 0, () -> b.filled(5000));
        b.part(1, 1, 9, 9, 0);
        s.due("from a part", 0, () -> b.filled(5000));
        b.track(1000, 1, 0, 0, 31, 0);
        s.due("from a track of another layer", 0, () -> b.filled(5000));
        b.track(1000, 0, 0, 0, 0, 0);
        s.due("from a track", 767, () -> b.filled(5000));
        b.drop(4001);
        s.due("from a dropped track", 0, () -> b.filled(5000));
        b.pad(2000, 1000, 0, 0);
        s.due("from a pad", 767, () -> b.filled(5000));
        b.drop(2000);
        s.due("from a dropped part's", 0, () -> b.filled(5000));
    }

    private static void fillsFromSuchCells() {
        BoardHouse b = house(1, 0);
        b.plane(1000, 0);
        b.via(1000, 5, 5);
        b.via(1001, 6, 5);
        s.due("beside at gap 0", 767, () -> b.filled(5000));
        b.gap(1);
        s.due("near another net's at gap 1", 0, () -> b.filled(5000));
        b.gap(0);
        b.track(1000, 0, 4, 5, 5, 5);
        b.gap(1);
        s.due("one cell of a track just not near", 759, () -> b.filled(5000));
        b.gap(2);
        s.due("that near, too", 0, () -> b.filled(5000));
    }

    private static void fillsBySteps() {
        fillsBehindWall(16, 0, 16, 23, 0, 0, 16 * 24);
        fillsBehindWall(16, 0, 16, 23, 31, 23, 15 * 24);
        fillsBehindWall(0, 12, 31, 12, 0, 0, 12 * 32);
        fillsBehindWall(0, 12, 31, 12, 31, 23, 11 * 32);
        fillsBehindWall(0, 1, 30, 1, 0, 0, 768 - 31);
        fillsBehindWall(1, 1, 31, 1, 31, 0, 768 - 31);
        fillsBehindWall(1, 0, 1, 22, 0, 0, 768 - 23);
        fillsBehindWall(30, 1, 30, 23, 31, 23, 768 - 23);
        int[][] corners = {{0, 0, 1, 1}, {31, 0, -1, 1}, {0, 23, 1, -1}, {31, 23, -1, -1}};
        for (int[] c : corners) {
            BoardHouse b = house(1, 0);
            b.plane(1000, 0);
            b.via(1000, c[0], c[1]);
            b.via(1001, c[0] + c[2], c[1]);
            b.via(1001, c[0], c[1] + c[3]);
            s.due("no step across a corner at " + c[0] + " " + c[1], 1, () -> b.filled(5000));
        }
    }

    private static void fillsBehindWall(int x0, int y0, int x1, int y1, int x, int y, int cells) {
        BoardHouse b = house(1, 0);
        b.plane(1000, 0);
        b.track(1001, 0, x0, y0, x1, y1);
        b.via(1000, x, y);
        s.due("a wall at " + x0 + " " + y0 + ", from " + x + " " + y, cells, () -> b.filled(5000));
    }

    private static void islandsOfPlanes() {
        BoardHouse b = house(1, 0);
        b.via(1000, 2, 2);
        b.via(1000, 20, 20);
        b.plane(1000, 0);
        s.due("its plane", 1, () -> b.islands(1000));
        b.via(1001, 3, 2);
        b.via(1001, 21, 20);
        b.gap(1);
        s.due("its plane, which fills nothing", 0, () -> b.filled(5000));
        s.due("joins nothing", 2, () -> b.islands(1000));
        b.gap(0);
        b.track(1000, 0, 20, 20, 18, 20);
        b.gap(1);
        s.due("copper beside what it fills", 1, () -> b.islands(1000));
        b.drop(5000);
        s.due("a dropped plane", 2, () -> b.islands(1000));
        b.gap(0);
        b.plane(1001, 0);
        s.due("another net's plane, which fills all but four cells", 764, () -> b.filled(5001));
        s.due("joins nothing of this net's", 2, () -> b.islands(1000));
        s.due("but of its own", 1, () -> b.islands(1001));
        BoardHouse cut = house(2, 0);
        cut.via(1000, 2, 2);
        cut.via(1000, 20, 20);
        cut.plane(1000, 1);
        cut.track(1001, 1, 10, 0, 10, 22);
        s.due("a way round", 1, () -> cut.islands(1000));
        cut.track(1001, 1, 10, 23, 10, 23);
        s.due("cut in two", 2, () -> cut.islands(1000));
        cut.plane(1000, 0);
        s.due("by the plane of another layer", 1, () -> cut.islands(1000));
    }

    private static void islandsBeside() {
        int[][] pairs = {
            {5, 5, 5, 5, 1}, {5, 5, 6, 5, 1}, {5, 5, 5, 6, 1}, {5, 5, 4, 5, 1}, {5, 5, 5, 4, 1}, {5, 5, 6, 6, 2},
            {5, 5, 4, 6, 2}, {5, 5, 7, 5, 2}, {5, 5, 5, 7, 2}, {31, 5, 0, 5, 2}, {31, 5, 0, 6, 2}, {0, 5, 31, 4, 2},
            {5, 0, 5, 23, 2}, {0, 0, 31, 23, 2}, {30, 23, 31, 23, 1}, {31, 22, 31, 23, 1}, {0, 0, 1, 0, 1}, {0, 0, 0, 1, 1}};
        for (int[] p : pairs) {
            BoardHouse b = house(1, 4);
            b.via(1000, p[0], p[1]);
            s.due("one via", 1, () -> b.islands(1000));
            b.via(1000, p[2], p[3]);
            s.due(p[0] + " " + p[1] + " and " + p[2] + " " + p[3], p[4], () -> b.islands(1000));
        }
        BoardHouse b = house(2, 0);
        b.via(1000, 0, 0);
        b.track(1000, 0, 1, 0, 5, 0);
        b.track(1000, 1, 5, 0, 5, 3);
        b.via(1000, 5, 4);
        s.due("tracks one over the other on two layers", 2, () -> b.islands(1000));
        b.track(1000, 0, 5, 1, 5, 3);
        s.due("on one layer", 1, () -> b.islands(1000));
        b.drop(4002);
        b.track(1001, 0, 5, 1, 5, 3);
        s.due("another net's between them", 2, () -> b.islands(1000));
    }

    private static void islandsOverLayers() {
        for (int first = 0; first < 4; first++) {
            for (int second = 0; second < 4; second++) {
                BoardHouse b = house(4, 0);
                b.via(1000, 0, 5);
                b.track(1000, first, 1, 5, 4, 5);
                b.track(1000, second, 6, 5, 9, 5);
                b.via(1000, 10, 5);
                b.part(1, 1, 5, 5, 0);
                String what = "layers " + first + " and " + second;
                s.due(what + " apart", 2, () -> b.islands(1000));
                b.via(1000, 5, 5);
                s.due(what + " over a via", 1, () -> b.islands(1000));
                b.drop(3002);
                b.pad(2000, 1000, 0, 0);
                s.due(what + " over a pad", 1, () -> b.islands(1000));
                b.drop(3003);
                b.pad(2000, 1001, 0, 0);
                s.due(what + " over another net's pad", 2, () -> b.islands(1000));
            }
        }
    }

    private static void heldUntilEnded() {
        for (boolean keep : new boolean[] {true, false}) {
            BoardHouse b = house(4, 0);
            int act = b.begin(5, 5, 8, 8);
            for (int layer = 0; layer < 4; layer++) {
                int l = layer;
                s.refused("a track on layer " + l, b, BARRED, () -> b.track(1000, l, 8, 8, 8, 9));
            }
            s.refused("a via", b, BARRED, () -> b.via(1000, 5, 5));
            s.refused("a part on side 0", b, BARRED, () -> b.part(1, 1, 5, 5, 0));
            s.refused("a part on side 1", b, BARRED, () -> b.part(1, 1, 5, 5, 1));
            b.work(act);
            b.work(0);
            s.refused("when it is not worked in any more", b, BARRED, () -> b.via(1000, 5, 5));
            b.end(act, keep);
            s.due("when it is ended", 3000, () -> b.via(1000, 5, 5));
            s.due("told", 0, b::told);
        }
    }

    private static void worksInTheLast() {
        BoardHouse b = house(1, 0);
        b.begin(0, 0, 3, 3);
        s.refused("begin() is not work()", b, BARRED, () -> b.via(1000, 0, 0));
        b.work(6000);
        s.due("in the first", 3000, () -> b.via(1000, 0, 0));
        b.begin(10, 10, 12, 12);
        s.due("still in the first", 3001, () -> b.via(1000, 1, 1));
        s.refused("not in the second", b, BARRED, () -> b.via(1000, 10, 10));
        b.work(6001);
        s.due("in the second", 3002, () -> b.via(1000, 10, 10));
        s.refused("not in the first", b, BARRED, () -> b.via(1000, 0, 0));
        s.refused("nor in none", b, BARRED, () -> b.via(1000, 20, 20));
        Answers.of(() -> b.work(6002));
        s.due("a work() that throws tells none", 3003, () -> b.via(1000, 11, 11));
        b.work(0);
        s.due("in none", 3004, () -> b.via(1000, 20, 20));
        s.refused("not in the first either", b, BARRED, () -> b.via(1000, 0, 0));
        s.refused("nor in the second", b, BARRED, () -> b.via(1000, 10, 10));
    }

    /** A house that works in an act with the region 10 .. 13, 10 .. 12. */
    private static BoardHouse inRegion() {
        BoardHouse b = house(2, 0);
        b.work(b.begin(10, 10, 13, 12));
        return b;
    }

    private static void madeInRegion() {
        BoardHouse b = inRegion();
        int[][] corners = {{10, 10}, {13, 10}, {10, 12}, {13, 12}};
        for (int[] p : corners) {
            s.due("a via at " + p[0] + " " + p[1], true, () -> b.via(1000, p[0], p[1]) != -1);
        }
        int[][] out = {{9, 10}, {10, 9}, {14, 10}, {13, 9}, {9, 12}, {10, 13}, {14, 12}, {13, 13}, {0, 0}, {31, 23}};
        for (int[] p : out) {
            s.refused("a via at " + p[0] + " " + p[1], b, BARRED, () -> b.via(1000, p[0], p[1]));
        }
        s.due("a track from end to end", 4000, () -> b.track(1000, 0, 10, 10, 13, 10));
        s.refused("a track one longer", b, BARRED, () -> b.track(1000, 0, 10, 10, 14, 10));
        s.refused("a track one earlier", b, BARRED, () -> b.track(1000, 0, 9, 10, 13, 10));
        s.refused("a track down one longer", b, BARRED, () -> b.track(1000, 0, 10, 10, 10, 13));
        int[][] parts = {{5, 3, 10, 10}, {4, 4, 10, 10}, {5, 3, 9, 10}, {4, 4, 10, 9}};
        for (int[] p : parts) {
            s.refused("a part " + p[0] + " by " + p[1], b, BARRED, () -> b.part(p[0], p[1], p[2], p[3], 0));
        }
        s.due("a part of all of it", 2000, () -> b.part(4, 3, 10, 10, 0));
        s.due("a pad", true, () -> b.pad(2000, 1000, 3, 2) != -1);
    }

    private static void movedInRegion() {
        BoardHouse b = house(2, 0);
        b.part(2, 2, 11, 11, 0);
        b.part(2, 2, 20, 10, 0);
        b.part(2, 2, 13, 5, 1);
        b.begin(10, 10, 13, 12);
        s.refused("in none, out of it", b, BARRED, () -> b.move(2000, 5, 5));
        s.refused("in none, into it by a cell", b, BARRED, () -> b.move(2001, 13, 12));
        s.due("in none, beside it", true, () -> b.move(2001, 14, 12));
        b.work(6000);
        s.refused("into it from beside it", b, BARRED, () -> b.move(2001, 10, 10));
        s.refused("out of it by a cell", b, BARRED, () -> b.move(2000, 13, 11));
        s.refused("down out of it by a cell", b, BARRED, () -> b.move(2000, 11, 12));
        s.due("in it", true, () -> b.move(2000, 12, 11));
        s.due("and to its first cell", true, () -> b.move(2000, 10, 10));
        b.end(6000, true);
        b.move(2002, 13, 12);
        b.begin(10, 10, 13, 12);
        b.work(6001);
        s.refused("that is in it by a cell alone", b, BARRED, () -> b.move(2002, 12, 11));
    }

    private static void droppedInRegion() {
        BoardHouse b = house(2, 0);
        b.via(1000, 10, 10);
        b.via(1000, 9, 10);
        b.track(1000, 0, 10, 11, 13, 11);
        b.track(1000, 0, 13, 12, 14, 12);
        b.part(2, 2, 12, 11, 0);
        b.part(2, 2, 13, 12, 1);
        b.pad(2001, 1000, 0, 0);
        b.begin(10, 10, 13, 12);
        b.work(6000);
        s.refused("a via beside it", b, BARRED, () -> b.drop(3001));
        s.refused("a track half in it", b, BARRED, () -> b.drop(4001));
        s.refused("a part half in it", b, BARRED, () -> b.drop(2001));
        s.due("the pad in it of that part", true, () -> b.drop(3002));
        s.due("a via in it", true, () -> b.drop(3000));
        s.due("a track in it", true, () -> b.drop(4000));
        s.due("a part in it", true, () -> b.drop(2000));
    }

    private static void inNoOthers() {
        int[][] corners = {{10, 10}, {13, 10}, {10, 12}, {13, 12}};
        for (int[] p : corners) {
            BoardHouse b = house(2, 0);
            b.part(1, 1, p[0], p[1], 0);
            b.via(1000, p[0], p[1]);
            b.begin(10, 10, 13, 12);
            b.begin(20, 10, 23, 12);
            for (int act : new int[] {0, 6001}) {
                b.work(act);
                String what = "from " + act + " at " + p[0] + " " + p[1];
                s.refused("a via " + what, b, BARRED, () -> b.via(1000, p[0], p[1]));
                s.refused("a pad " + what, b, BARRED, () -> b.pad(2000, 1000, 0, 0));
                s.refused("a drop " + what, b, BARRED, () -> b.drop(3000));
                s.refused("a move " + what, b, BARRED, () -> b.move(2000, 20, 10));
            }
        }
        BoardHouse b = house(1, 0);
        b.begin(10, 10, 13, 12);
        int[][] beside = {{9, 10}, {10, 9}, {14, 12}, {13, 13}};
        for (int[] p : beside) {
            s.due("beside it at " + p[0] + " " + p[1], true, () -> b.via(1000, p[0], p[1]) != -1);
        }
        s.refused("a track through it", b, BARRED, () -> b.track(1000, 0, 0, 11, 31, 11));
        s.refused("a part round a corner of it", b, BARRED, () -> b.part(8, 8, 3, 3, 0));
    }

    private static void planeHasAll() {
        int[][] cells = {{0, 0}, {31, 0}, {0, 23}, {31, 23}, {16, 12}};
        for (int[] p : cells) {
            BoardHouse b = house(2, 0);
            b.plane(1000, 0);
            b.begin(p[0], p[1], p[0], p[1]);
            s.refused("in none, " + p[0] + " " + p[1] + " held", b, BARRED, () -> b.plane(1000, 1));
            s.refused("its drop", b, BARRED, () -> b.drop(5000));
            b.end(6000, true);
            s.due("when it is ended", 5001, () -> b.plane(1000, 1));
        }
        int[][] less = {{1, 0, 31, 23}, {0, 1, 31, 23}, {0, 0, 30, 23}, {0, 0, 31, 22}};
        for (int[] r : less) {
            BoardHouse b = house(2, 0);
            b.plane(1000, 0);
            b.work(b.begin(r[0], r[1], r[2], r[3]));
            s.refused("in all but a row", b, BARRED, () -> b.plane(1000, 1));
            s.refused("its drop", b, BARRED, () -> b.drop(5000));
        }
        BoardHouse b = house(2, 0);
        b.work(b.begin(0, 0, 31, 23));
        s.due("in all cells", 5000, () -> b.plane(1000, 1));
        s.due("its drop", true, () -> b.drop(5000));
    }

    private static void partHasItsRectangle() {
        int[][] cells = {{10, 10}, {12, 10}, {10, 11}, {12, 11}, {11, 11}};
        for (int[] p : cells) {
            BoardHouse b = house(1, 0);
            b.part(3, 2, 10, 10, 0);
            b.begin(p[0], p[1], p[0], p[1]);
            String what = p[0] + " " + p[1] + " held: ";
            s.refused(what + "a part over it", b, BARRED, () -> b.part(3, 2, 10, 10, 1));
            s.refused(what + "its drop", b, BARRED, () -> b.drop(2000));
            s.refused(what + "its move", b, BARRED, () -> b.move(2000, 20, 20));
            s.refused(what + "a pad there", b, BARRED, () -> b.pad(2000, 1000, p[0] - 10, p[1] - 10));
        }
        int[][] beside = {{9, 10}, {13, 11}, {10, 9}, {12, 12}};
        for (int[] p : beside) {
            BoardHouse b = house(1, 0);
            b.part(3, 2, 10, 10, 0);
            b.pad(2000, 1000, 2, 1);
            b.begin(p[0], p[1], p[0], p[1]);
            s.due("beside it, its drop", true, () -> b.drop(2000));
            s.due("beside it, a part", 2001, () -> b.part(3, 2, 10, 10, 0));
        }
    }

    /** Parts 2000 (with pad 3000) and 2001, via 3001, track 4000 and plane 5000; act 6000 holds 0 .. 3, 12 .. 15. */
    private static BoardHouse scene() {
        BoardHouse b = house(2, 1);
        b.part(3, 3, 2, 2, 0);
        b.pad(2000, 1000, 0, 0);
        b.via(1001, 20, 20);
        b.track(1000, 0, 10, 5, 14, 5);
        b.plane(1000, 0);
        b.part(2, 2, 25, 2, 0);
        b.begin(0, 12, 3, 15);
        return b;
    }

    private static void keeps(String what, BoardHouse b, int why, Function<BoardHouse, Object> call) {
        String before = Sentences.standing(b);
        s.refused(what, b, why, () -> call.apply(b));
        s.due(what + " changes nothing", before, () -> Sentences.standing(b));
    }

    private static void changesNothing() {
        keeps("part", scene(), OUTSIDE, b -> b.part(2, 2, 31, 0, 0));
        keeps("part", scene(), BARRED, b -> b.part(2, 2, 3, 15, 0));
        keeps("part", scene(), OVERLAP, b -> b.part(2, 2, 4, 4, 0));
        keeps("pad", scene(), OUTSIDE, b -> b.pad(2000, 1000, 3, 0));
        keeps("pad", scene(), CLASH, b -> b.pad(2000, 1001, 1, 1));
        keeps("via", scene(), OUTSIDE, b -> b.via(1000, 32, 0));
        keeps("via", scene(), BARRED, b -> b.via(1000, 3, 15));
        keeps("via", scene(), CLASH, b -> b.via(1000, 19, 19));
        keeps("track", scene(), OUTSIDE, b -> b.track(1000, 0, 0, 0, 32, 0));
        keeps("track", scene(), BARRED, b -> b.track(1000, 0, 3, 15, 9, 15));
        keeps("track", scene(), CLASH, b -> b.track(1001, 0, 15, 6, 18, 6));
        keeps("plane", scene(), BARRED, b -> b.plane(1000, 1));
        keeps("move", scene(), OUTSIDE, b -> b.move(2000, 30, 0));
        keeps("move", scene(), BARRED, b -> b.move(2000, 3, 10));
        keeps("move", scene(), OVERLAP, b -> b.move(2000, 24, 3));
        keeps("move", scene(), CLASH, b -> b.move(2000, 21, 21));
        keeps("drop", scene(), BARRED, b -> b.drop(5000));
        keeps("begin", scene(), OUTSIDE, b -> b.begin(5, 5, 4, 5));
        keeps("begin", scene(), BARRED, b -> b.begin(3, 15, 4, 16));
        BoardHouse b = scene();
        b.end(6000, true);
        keeps("plane", b, OVERLAP, c -> c.plane(1000, 0));
        s.due("the next act is the second", 6001, () -> b.begin(0, 0, 0, 0));
        s.refused("a plane is still there", b, BARRED, () -> b.plane(1000, 1));
    }

    /** A house with a part, and so many calls that make it full. */
    private static BoardHouse full(int most, ToIntFunction<BoardHouse> make) {
        BoardHouse b = house(1, 0);
        b.part(2, 2, 2, 2, 0);
        for (int i = 0; i < most; i++) {
            make.applyAsInt(b);
        }
        return b;
    }

    private static void changesNothingWhenFull() {
        keeps("net", full(17, BoardHouse::net), FULL, BoardHouse::net);
        keeps("part", full(19, b -> b.part(1, 1, b.count(2), 9, 0)), FULL, b -> b.part(1, 1, 9, 20, 0));
        keeps("pad", full(60, b -> b.pad(2000, 1000, 0, 0)), FULL, b -> b.pad(2000, 1000, 0, 0));
        keeps("via", full(60, b -> b.via(1000, 9, 9)), FULL, b -> b.via(1000, 9, 9));
        keeps("track", full(60, b -> b.track(1000, 0, 0, 0, 5, 0)), FULL, b -> b.track(1000, 0, 0, 0, 5, 0));
        keeps("plane", tenPlanesDropped(), FULL, b -> b.plane(1000, 0));
        keeps("version", full(8, BoardHouse::version), FULL, BoardHouse::version);
        BoardHouse b = tenActsOpen();
        keeps("begin", b, FULL, c -> c.begin(20, 20, 20, 20));
        s.due("what was not held is free", 3000, () -> b.via(1000, 20, 20));
    }

    private static BoardHouse tenPlanesDropped() {
        BoardHouse b = house(1, 0);
        for (int n = 0; n < 10; n++) {
            b.plane(1000, 0);
            b.drop(5000 + n);
        }
        return b;
    }

    /** Acts that hold the first ten cells of the first row. */
    private static BoardHouse tenActsOpen() {
        BoardHouse b = house(1, 0);
        for (int n = 0; n < 10; n++) {
            b.begin(n, 0, n, 0);
        }
        return b;
    }

    private static void changesNothingOfAnAct() {
        BoardHouse b = house(1, 0);
        b.part(1, 1, 0, 0, 0);
        b.work(b.begin(0, 0, 9, 9));
        s.refused("a via outside", b, OUTSIDE, () -> b.via(1000, 32, 0));
        s.refused("a part beside it", b, BARRED, () -> b.part(1, 1, 10, 9, 0));
        s.refused("a part on a part", b, OVERLAP, () -> b.part(1, 1, 0, 0, 0));
        s.refused("a move out of it", b, BARRED, () -> b.move(2000, 10, 0));
        s.refused("a plane", b, BARRED, () -> b.plane(1000, 0));
        s.due("still in it", false, () -> b.work(6000));
        s.due("no changes", 0, () -> b.end(6000, true));
    }

    private static void fullIsFirst() {
        BoardHouse parts = full(19, b -> b.part(1, 1, b.count(2), 9, 0));
        s.refused("a part outside", parts, FULL, () -> parts.part(1, 1, -1, 0, 0));
        s.refused("a part on a part", parts, FULL, () -> parts.part(1, 1, 2, 2, 0));
        parts.begin(20, 20, 20, 20);
        s.refused("a part in a region", parts, FULL, () -> parts.part(1, 1, 20, 20, 0));
        BoardHouse points = full(60, b -> b.via(1000, 2, 2));
        s.refused("a via outside", points, FULL, () -> points.via(1000, 32, 0));
        s.refused("a pad outside its part", points, FULL, () -> points.pad(2000, 1000, 2, 0));
        s.refused("a via that clashes", points, FULL, () -> points.via(1001, 2, 2));
        s.refused("a pad that clashes", points, FULL, () -> points.pad(2000, 1001, 0, 0));
        points.begin(2, 2, 2, 2);
        s.refused("a via in a region", points, FULL, () -> points.via(1000, 2, 2));
        s.refused("a pad in a region", points, FULL, () -> points.pad(2000, 1000, 0, 0));
        BoardHouse tracks = full(60, b -> b.track(1000, 0, 0, 0, 5, 0));
        s.refused("a track outside", tracks, FULL, () -> tracks.track(1000, 0, 32, 0, 32, 0));
        s.refused("a track that clashes", tracks, FULL, () -> tracks.track(1001, 0, 0, 0, 5, 0));
        tracks.begin(2, 0, 2, 0);
        s.refused("a track in a region", tracks, FULL, () -> tracks.track(1000, 0, 0, 0, 5, 0));
        BoardHouse planes = tenPlanesDropped();
        planes.begin(2, 2, 2, 2);
        s.refused("a plane on a region", planes, FULL, () -> planes.plane(1000, 0));
        BoardHouse last = house(1, 0);
        for (int n = 0; n < 9; n++) {
            last.plane(1000, 0);
            last.drop(5000 + n);
        }
        last.plane(1000, 0);
        s.refused("a plane on a plane", last, FULL, () -> last.plane(1000, 0));
        BoardHouse acts = tenActsOpen();
        s.refused("an act outside", acts, FULL, () -> acts.begin(-1, 0, 0, 0));
        s.refused("a turned act", acts, FULL, () -> acts.begin(21, 0, 20, 0));
        s.refused("an act on an act", acts, FULL, () -> acts.begin(9, 0, 10, 0));
    }

    private static void outsideIsNext() {
        BoardHouse b = house(1, 0);
        b.part(2, 2, 30, 0, 0);
        b.part(2, 2, 20, 0, 0);
        b.pad(2001, 1001, 0, 0);
        b.track(1000, 0, 31, 10, 31, 12);
        b.via(1000, 20, 2);
        s.refused("a part on a part", b, OUTSIDE, () -> b.part(2, 2, 31, 1, 0));
        s.refused("a move on a part", b, OUTSIDE, () -> b.move(2001, 31, 1));
        s.refused("a move with a pad that clashes", b, OUTSIDE, () -> b.move(2001, 31, 10));
        s.refused("a track that clashes", b, OUTSIDE, () -> b.track(1001, 0, 30, 11, 32, 11));
        s.refused("a pad that would clash", b, OUTSIDE, () -> b.pad(2001, 1001, 0, 2));
        b.begin(31, 0, 31, 23);
        b.begin(18, 2, 22, 2);
        s.refused("a part in a region", b, OUTSIDE, () -> b.part(2, 2, 31, 5, 0));
        s.refused("a move into a region", b, OUTSIDE, () -> b.move(2001, 31, 5));
        s.refused("a move out of a region", b, OUTSIDE, () -> b.move(2000, -1, 0));
        s.refused("a track in a region", b, OUTSIDE, () -> b.track(1000, 0, 25, 5, 32, 5));
        s.refused("a pad in a region", b, OUTSIDE, () -> b.pad(2001, 1000, 0, 2));
        s.refused("an act on an act", b, OUTSIDE, () -> b.begin(31, 0, 32, 0));
        b.work(6000);
        s.refused("a via out of its own region", b, OUTSIDE, () -> b.via(1000, 32, 0));
    }

    private static void barredIsNext() {
        BoardHouse b = house(2, 0);
        b.part(2, 2, 10, 10, 0);
        b.part(2, 2, 20, 10, 0);
        b.pad(2001, 1001, 0, 0);
        b.via(1000, 10, 10);
        b.plane(1000, 0);
        b.begin(10, 10, 11, 11);
        s.refused("a part on a part", b, BARRED, () -> b.part(1, 1, 11, 11, 0));
        s.refused("a plane on a plane", b, BARRED, () -> b.plane(1000, 0));
        s.refused("a move on a part", b, BARRED, () -> b.move(2001, 11, 11));
        s.refused("a via that clashes", b, BARRED, () -> b.via(1001, 10, 10));
        s.refused("a track that clashes", b, BARRED, () -> b.track(1001, 0, 10, 10, 10, 20));
        s.refused("a pad that clashes", b, BARRED, () -> b.pad(2000, 1001, 0, 0));
        b.drop(2001);
        b.part(2, 2, 20, 10, 1);
        b.pad(2002, 1001, 0, 0);
        s.refused("a move that clashes", b, BARRED, () -> b.move(2002, 10, 10));
    }

    private static void overlap() {
        int[][] common = {{8, 9}, {12, 9}, {8, 11}, {12, 11}, {10, 10}, {11, 10}};
        int[][] beside = {{7, 10}, {13, 10}, {10, 8}, {10, 12}, {7, 8}, {13, 12}};
        for (int[] p : common) {
            BoardHouse b = house(1, 0);
            b.part(3, 2, 10, 10, 0);
            b.part(3, 2, 20, 20, 0);
            String what = " at " + p[0] + " " + p[1];
            s.refused("a part" + what, b, OVERLAP, () -> b.part(3, 2, p[0], p[1], 0));
            s.refused("a move" + what, b, OVERLAP, () -> b.move(2001, p[0], p[1]));
            s.due("on the other side" + what, 2002, () -> b.part(3, 2, p[0], p[1], 1));
            s.due("over itself" + what, true, () -> b.move(2000, p[0], p[1]));
            b.drop(2000);
            s.due("when it is dropped" + what, true, () -> b.move(2001, p[0], p[1]));
        }
        for (int[] p : beside) {
            BoardHouse b = house(1, 0);
            b.part(3, 2, 10, 10, 0);
            s.due("beside at " + p[0] + " " + p[1], 2001, () -> b.part(3, 2, p[0], p[1], 0));
            s.due("told", 0, b::told);
            b.move(2001, 20, 20);
            s.due("moved beside", true, () -> b.move(2001, p[0], p[1]));
        }
        BoardHouse b = house(1, 0);
        b.part(1, 1, 10, 10, 0);
        b.part(1, 1, 20, 10, 0);
        b.pad(2001, 1001, 0, 0);
        b.via(1000, 10, 10);
        s.refused("a move that would clash, too", b, OVERLAP, () -> b.move(2001, 10, 10));
    }

    private static void overlapOfPlanes() {
        for (int layer = 0; layer < 4; layer++) {
            int l = layer;
            BoardHouse b = house(4, 0);
            b.plane(1000, l);
            s.refused("on layer " + l, b, OVERLAP, () -> b.plane(1001, l));
            for (int other = 0; other < 4; other++) {
                int o = other;
                s.due("on layer " + o + " beside " + l, o != l, () -> o != l && b.plane(1001, o) != -1);
            }
            b.drop(5000);
            s.due("when it is dropped", 5004, () -> b.plane(1001, l));
        }
    }

    private static void clash() {
        BoardHouse b = house(2, 1);
        b.part(2, 2, 0, 0, 0);
        b.pad(2000, 1000, 1, 1);
        b.via(1001, 10, 10);
        b.track(1001, 1, 10, 15, 14, 15);
        s.refused("a via near the pad", b, CLASH, () -> b.via(1001, 2, 2));
        s.refused("a via near the track", b, CLASH, () -> b.via(1000, 15, 16));
        s.refused("a pad near the pad", b, CLASH, () -> b.pad(2000, 1001, 0, 0));
        s.refused("a track near the via", b, CLASH, () -> b.track(1000, 0, 9, 9, 9, 0));
        s.refused("a pad moved near the via", b, CLASH, () -> b.move(2000, 8, 8));
        s.refused("a pad moved near the track", b, CLASH, () -> b.move(2000, 14, 13));
        s.due("a pad moved not so near", true, () -> b.move(2000, 7, 7));
        s.due("a part alone near the via", true, () -> b.move(2000, 11, 11));
        b.drop(3001);
        s.due("a dropped via is not there", true, () -> b.move(2000, 9, 9));
        b.drop(4000);
        s.due("nor a dropped track", true, () -> b.move(2000, 10, 14));
        b.drop(3000);
        b.via(1001, 1, 1);
        s.due("a dropped pad does not clash", true, () -> b.move(2000, 0, 0));
        for (int[] way : EIGHT_WAYS) {
            movedNear(way, 2, 17);
            movedNear(way, 30, 1);
        }
        BoardHouse c = house(1, 0);
        c.via(1000, 5, 5);
        c.via(1001, 10, 5);
        c.part(2, 2, 20, 5, 0);
        c.pad(2000, 1000, 0, 0);
        s.due("copper that does not move with it", true, () -> c.move(2000, 25, 5) && c.move(2000, 20, 5));
    }

    /** A part that is moved from x, y to where its pad is too near, and to where it is just not. */
    private static void movedNear(int[] way, int x, int y) {
        BoardHouse b = house(1, 2);
        b.part(1, 1, x, y, 0);
        b.pad(2000, 1000, 0, 0);
        b.track(1001, 0, 16, 12, 16, 12);
        String what = "moved from " + x + " to the side " + way[0] + " " + way[1];
        s.refused(what, b, CLASH, () -> b.move(2000, 16 + 2 * way[0], 12 + 2 * way[1]));
        s.due(what + ", one further", true, () -> b.move(2000, 16 + 3 * way[0], 12 + 3 * way[1]));
    }

    private static void clashNotWithItself() {
        BoardHouse b = house(1, 0);
        b.part(3, 3, 10, 10, 0);
        b.pad(2000, 1000, 0, 0);
        b.pad(2000, 1001, 1, 0);
        b.gap(1);
        s.due("its pads clash", 1, b::check);
        s.due("it moves where it is", true, () -> b.move(2000, 10, 10));
        s.due("by one cell, onto its own pad's", true, () -> b.move(2000, 11, 10));
        s.due("told", 0, b::told);
        s.due("they clash as before", 1, b::check);
        b.part(3, 3, 20, 10, 0);
        b.pad(2001, 1001, 2, 2);
        s.refused("another part's pads are counted", b, CLASH, () -> b.move(2000, 23, 12));
        b.via(1001, 20, 20);
        s.refused("vias are", b, CLASH, () -> b.move(2000, 21, 21));
    }

    private static void indexFirst() {
        BoardHouse b = Sentences.oneOfEach();
        s.index("pad: part of another kind, net not given", () -> b.pad(3000, 1003, 0, 0));
        s.index("pad: part not given, net of another kind", () -> b.pad(2001, 2000, 0, 0));
        s.index("track: net of another kind, no such layer", () -> b.track(2000, 2, 0, 0, 0, 0));
        s.index("track: slanting, no such layer", () -> b.track(1000, -1, 0, 0, 1, 1));
        s.index("track: slanting, net not given", () -> b.track(1003, 0, 0, 0, 1, 1));
        s.index("plane: net of another kind, no such layer", () -> b.plane(2000, 2));
        s.index("at: of a net, no such what", () -> b.at(1000, 6));
        s.index("at: of an act, no such what", () -> b.at(6000, -1));
        s.index("back: not given, an act is open", () -> b.back(7001));
        s.argument("pad: both of another kind", () -> b.pad(3000, 3000, 0, 0));
    }

    private static void argumentNext() {
        BoardHouse b = Sentences.oneOfEach();
        b.drop(2000);
        s.argument("pad: part not there, net of another kind", () -> b.pad(2000, 4000, 0, 0));
        s.argument("back: of another kind, an act is open", () -> b.back(6000));
        s.argument("move: a pad that is not there", () -> b.move(3000, 0, 0));
        s.argument("filled: a pad that is not there", () -> b.filled(3000));
        s.state("pad: part not there", () -> b.pad(2000, 1000, 0, 0));
        s.index("pad: part not there, net not given", () -> b.pad(2000, 1003, 0, 0));
    }

    private static void throwsAheadOfRefusing() {
        BoardHouse b = Sentences.oneOfEach();
        s.argument("part: outside", () -> b.part(9, 1, 40, 0, 0));
        s.argument("part: outside, side 2", () -> b.part(1, 1, 40, 0, 2));
        s.index("via: outside", () -> b.via(1003, 40, 0));
        s.argument("via: outside, of another kind", () -> b.via(2000, 40, 0));
        s.argument("track: outside", () -> b.track(1000, 0, 40, 40, 41, 41));
        s.index("plane: barred", () -> b.plane(1000, 2));
        s.argument("plane: barred, of another kind", () -> b.plane(2000, 1));
        s.state("version: an act is open", b::version);
        b.end(6000, true);
        b.drop(2000);
        b.begin(0, 0, 9, 9);
        s.state("pad: outside its part", () -> b.pad(2000, 1000, 5, 5));
        s.state("move: outside", () -> b.move(2000, -1, 0));
        s.state("drop: barred", () -> b.drop(2000));
        BoardHouse full = full(60, c -> c.via(1000, 9, 9));
        s.index("via: full", () -> full.via(1003, 9, 9));
        s.index("pad: full", () -> full.pad(2001, 1000, 0, 0));
        full.drop(2000);
        s.state("pad: full, part not there", () -> full.pad(2000, 1000, 0, 0));
        BoardHouse versions = full(8, BoardHouse::version);
        versions.begin(0, 0, 0, 0);
        s.state("version: full", versions::version);
        BoardHouse parts = full(19, c -> c.part(1, 1, c.count(2), 9, 0));
        s.argument("part: full", () -> parts.part(0, 1, 0, 0, 0));
    }
}
