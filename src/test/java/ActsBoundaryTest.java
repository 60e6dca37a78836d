/** The boundary cases that promises 17 to 22 name, sentence by sentence. */
public final class ActsBoundaryTest {
    private static final int MIN = Sentences.MIN;
    private static final int MAX = Sentences.MAX;
    private static final int FULL = Sentences.FULL;
    private static final int OUTSIDE = Sentences.OUTSIDE;
    private static final int BARRED = Sentences.BARRED;
    private static final int OVERLAP = Sentences.OVERLAP;
    private static final int CLASH = Sentences.CLASH;
    private static final Sentences s = new Sentences();

    public static void main(String[] args) {
        beginAndWork();
        end();
        versionAndBack();
        told();
        s.finish("ActsBoundaryTest");
    }

    private static void beginAndWork() {
        s.test("17", "A new act with a region (both ends belong to it): its HANDLE", ActsBoundaryTest::begin);
        s.test("17", "NONE, REFUSED: FULL", ActsBoundaryTest::beginFull);
        s.test("17", "OUTSIDE (a CELL is none", ActsBoundaryTest::beginOutside);
        s.test("17", "or it is turned)", ActsBoundaryTest::beginTurned);
        s.test("17", "BARRED (it has a CELL in common with that of an open act).", ActsBoundaryTest::beginBarred);
        s.test("18", "What follows works in an act, or, 0, in none: whether it was another.", ActsBoundaryTest::work);
        s.test("18", "IndexOutOfBoundsException, IllegalArgumentException as for nets", ActsBoundaryTest::workThrows);
        s.test("18", "IllegalStateException, when it is not open.", ActsBoundaryTest::workNotOpen);
    }

    private static void end() {
        s.test("19", "An act is ended (what worked in it works in none then)", ActsBoundaryTest::endWorksInNone);
        s.test("19", "how many changes (THINGS made, moved, or dropped, one by one, a part's pads, too) were made in it",
                ActsBoundaryTest::endCounts);
        s.test("19", "unless they are kept", ActsBoundaryTest::endKeeps);
        s.test("19", "they are undone, the latest first", ActsBoundaryTest::endUndoes);
        s.test("19", "without being asked", ActsBoundaryTest::endDoesNotAsk);
        s.test("19", "Throws as work() does.", ActsBoundaryTest::endThrows);
    }

    private static void versionAndBack() {
        s.test("20", "A new version of all THINGS (THERE or not, and where): its HANDLE", ActsBoundaryTest::version);
        s.test("20", "NONE, REFUSED (FULL).", ActsBoundaryTest::versionFull);
        s.test("20", "IllegalStateException, when an act is open.", ActsBoundaryTest::versionThrows);
        s.test("21", "All THINGS become as in a version", ActsBoundaryTest::back);
        s.test("21", "those made since are not THERE", ActsBoundaryTest::backMadeSince);
        s.test("21", "how many changed", ActsBoundaryTest::backCounts);
        s.test("21", "IndexOutOfBoundsException, IllegalArgumentException as for nets", ActsBoundaryTest::backThrows);
        s.test("21", "IllegalStateException, when an act is open.", ActsBoundaryTest::backNotWhileOpen);
    }

    private static void told() {
        s.test("22", "Why the latest call that can be REFUSED (net, part, pad, via, track, plane, move, drop, begin, version) was",
                ActsBoundaryTest::toldWhy);
        s.test("22", "0 when it was not", ActsBoundaryTest::toldNot);
        s.test("22, after other calls", "the latest call that can be REFUSED", ActsBoundaryTest::toldNoOther);
        s.test("22", "(one that throws is none)", ActsBoundaryTest::toldNotOfThrows);
    }

    private static BoardHouse house(int layers, int gap) {
        return Sentences.house(layers, gap);
    }

    private static void begin() {
        int[][] regions = {{0, 0, 31, 23}, {0, 0, 0, 0}, {31, 23, 31, 23}, {5, 0, 5, 23}, {0, 5, 31, 5}, {3, 4, 7, 9}};
        for (int[] r : regions) {
            BoardHouse b = house(1, 0);
            s.due("from " + r[0] + " " + r[1], 6000, () -> b.begin(r[0], r[1], r[2], r[3]));
            s.due("told", 0, b::told);
            s.refused("its first cell is held", b, BARRED, () -> b.via(1000, r[0], r[1]));
            s.refused("its last cell is held", b, BARRED, () -> b.via(1000, r[2], r[3]));
            beside(b, r[0] - 1, r[1]);
            beside(b, r[0], r[1] - 1);
            beside(b, r[2] + 1, r[3]);
            beside(b, r[2], r[3] + 1);
            b.work(6000);
            s.due("its first cell is its", true, () -> b.via(1000, r[0], r[1]) != -1);
            s.due("its last cell is its", true, () -> b.via(1000, r[2], r[3]) != -1);
        }
    }

    /** A cell that is not of the region, which is free when it is one of the board. */
    private static void beside(BoardHouse b, int x, int y) {
        boolean onBoard = x >= 0 && x <= 31 && y >= 0 && y <= 23;
        s.due(x + " " + y + " is not held", onBoard, () -> b.via(1000, x, y) != -1);
    }

    private static void beginFull() {
        BoardHouse b = house(1, 0);
        for (int n = 0; n < 10; n++) {
            int act = 6000 + n;
            s.due("act " + n, act, () -> b.begin(0, 0, 31, 23));
            b.end(act, true);
        }
        s.due("told", 0, b::told);
        s.refused("act 10", b, FULL, () -> b.begin(0, 0, 31, 23));
        s.refused("act 10, outside", b, FULL, () -> b.begin(-1, 0, 31, 23));
        s.index("it was not given", () -> b.work(6010));
        s.due("it holds nothing", 3000, () -> b.via(1000, 0, 0));
    }

    private static void beginOutside() {
        BoardHouse b = house(1, 0);
        int[][] out = {
            {-1, 0, 5, 5}, {0, -1, 5, 5}, {0, 0, 32, 5}, {0, 0, 5, 24}, {32, 0, 32, 0}, {0, 24, 0, 24}, {-1, -1, -1, -1},
            {MIN, 0, 5, 5}, {0, MIN, 5, 5}, {0, 0, MAX, 5}, {0, 0, 5, MAX}, {MIN, MIN, MAX, MAX}};
        for (int[] r : out) {
            s.refused("from " + r[0] + " " + r[1], b, OUTSIDE, () -> b.begin(r[0], r[1], r[2], r[3]));
        }
        s.due("the whole board", 6000, () -> b.begin(0, 0, 31, 23));
        s.refused("outside, while all is held", b, OUTSIDE, () -> b.begin(31, 23, 32, 23));
    }

    private static void beginTurned() {
        BoardHouse b = house(1, 0);
        int[][] turned = {{5, 5, 4, 5}, {5, 5, 5, 4}, {5, 5, 4, 4}, {31, 0, 0, 23}, {0, 23, 31, 0}, {31, 23, 0, 0}, {MAX, 0, MIN, 0}};
        for (int[] r : turned) {
            s.refused("from " + r[0] + " " + r[1], b, OUTSIDE, () -> b.begin(r[0], r[1], r[2], r[3]));
        }
        s.due("just not turned", 6000, () -> b.begin(5, 5, 5, 5));
        s.refused("turned, on an open act's", b, OUTSIDE, () -> b.begin(6, 5, 4, 5));
    }

    private static void beginBarred() {
        BoardHouse b = house(1, 0);
        b.begin(10, 10, 13, 12);
        int[][] common = {
            {10, 10, 13, 12}, {9, 9, 10, 10}, {13, 12, 14, 13}, {13, 9, 20, 10}, {5, 12, 10, 20}, {11, 11, 11, 11}, {0, 0, 31, 23},
            {12, 0, 12, 23}, {0, 11, 31, 11}};
        for (int[] r : common) {
            s.refused("from " + r[0] + " " + r[1], b, BARRED, () -> b.begin(r[0], r[1], r[2], r[3]));
        }
        s.due("beside it on the left", 6001, () -> b.begin(0, 0, 9, 23));
        s.due("beside it on the right", 6002, () -> b.begin(14, 0, 31, 23));
        s.due("beside it above", 6003, () -> b.begin(10, 0, 13, 9));
        s.due("beside it below", 6004, () -> b.begin(10, 13, 13, 23));
        s.refused("nothing is left", b, BARRED, () -> b.begin(12, 11, 12, 11));
        b.work(6000);
        s.refused("nor in the act it works in", b, BARRED, () -> b.begin(12, 11, 12, 11));
        b.end(6000, true);
        s.due("where one was ended", 6005, () -> b.begin(10, 10, 13, 12));
    }

    private static void work() {
        BoardHouse b = house(1, 0);
        s.due("none after none", false, () -> b.work(0));
        b.begin(0, 0, 3, 3);
        b.begin(10, 0, 13, 3);
        s.due("none while acts are open", false, () -> b.work(0));
        s.due("an act after none", true, () -> b.work(6000));
        s.due("the same act", false, () -> b.work(6000));
        s.due("another act", true, () -> b.work(6001));
        s.due("the first act again", true, () -> b.work(6000));
        s.due("none after an act", true, () -> b.work(0));
        s.due("none again", false, () -> b.work(0));
        b.work(6000);
        b.end(6000, true);
        s.due("none after an act that was ended", false, () -> b.work(0));
        b.begin(0, 0, 3, 3);
        s.due("an act with the same region", true, () -> b.work(6002));
        b.end(6001, true);
        s.due("the same, when another was ended", false, () -> b.work(6002));
    }

    private static void workThrows() {
        BoardHouse b = Sentences.oneOfEach();
        b.work(6000);
        for (int h : Sentences.NOT_GIVEN) {
            if (h != 0) {
                s.index("act " + h, () -> b.work(h));
            }
        }
        for (int h : Sentences.ofOtherKind(6)) {
            s.argument("act " + h, () -> b.work(h));
        }
        s.due("it still works in the act", false, () -> b.work(6000));
    }

    private static void workNotOpen() {
        BoardHouse b = house(1, 0);
        b.begin(0, 0, 3, 3);
        b.begin(10, 0, 13, 3);
        b.work(6001);
        b.end(6000, true);
        s.state("one that was ended, kept", () -> b.work(6000));
        s.due("it still works in the other", false, () -> b.work(6001));
        b.end(6001, false);
        s.state("one that was ended, undone", () -> b.work(6001));
        s.due("it works in none", false, () -> b.work(0));
        b.begin(0, 0, 3, 3);
        s.state("a later act does not open it", () -> b.work(6000));
    }

    private static void endWorksInNone() {
        for (boolean keep : new boolean[] {true, false}) {
            BoardHouse b = house(1, 0);
            b.begin(0, 0, 3, 3);
            b.begin(10, 0, 13, 3);
            b.work(6000);
            s.due("another act", 0, () -> b.end(6001, keep));
            s.refused("it still works in the first", b, BARRED, () -> b.via(1000, 20, 20));
            s.due("the first", 0, () -> b.end(6000, keep));
            s.due("it works in none", 3000, () -> b.via(1000, 20, 20));
            s.due("in none indeed", false, () -> b.work(0));
            s.due("its region is free", 6002, () -> b.begin(0, 0, 3, 3));
        }
    }

    private static void endCounts() {
        BoardHouse b = house(1, 0);
        b.part(2, 2, 0, 0, 0);
        b.pad(2000, 1000, 0, 0);
        b.pad(2000, 1000, 1, 1);
        b.via(1000, 20, 20);
        changes("nothing", 0, b, () -> { });
        changes("a part made", 1, b, () -> b.part(1, 1, 9, 9, 0));
        changes("a pad made", 1, b, () -> b.pad(2001, 1000, 0, 0));
        changes("a via, a track made", 2, b, () -> {
            b.via(1000, 5, 5);
            b.track(1000, 0, 0, 5, 5, 5);
        });
        changes("a part moved with two pads", 3, b, () -> b.move(2000, 3, 3));
        changes("and moved twice", 6, b, () -> {
            b.move(2000, 4, 4);
            b.move(2000, 5, 5);
        });
        changes("a pad dropped, the part moved and dropped", 1 + 2 + 2, b, () -> {
            b.drop(3000);
            b.move(2000, 3, 3);
            b.drop(2000);
        });
        changes("refused, thrown, looked at", 0, b, () -> {
            b.via(1000, 32, 0);
            Answers.of(() -> b.drop(2000));
            b.gap(1);
            b.net();
            b.islands(1000);
        });
        BoardHouse c = house(1, 0);
        c.via(1000, 0, 0);
        changes("a plane made and dropped", 2, c, () -> {
            c.plane(1000, 0);
            c.drop(5000);
        });
        changes("a via dropped", 1, c, () -> c.drop(3000));
        c.begin(0, 0, 3, 3);
        c.via(1000, 9, 9);
        s.due("what was made in none", 0, () -> c.end(6002, true));
    }

    /** Does something in a new act of the whole board, which is ended and kept. */
    private static void changes(String what, int want, BoardHouse b, Runnable doing) {
        int act = b.begin(0, 0, 31, 23);
        b.work(act);
        doing.run();
        s.due(what, want, () -> b.end(act, true));
    }

    private static void endKeeps() {
        BoardHouse b = house(1, 0);
        b.part(2, 2, 0, 0, 0);
        b.pad(2000, 1000, 1, 1);
        b.via(1000, 9, 9);
        b.work(b.begin(0, 0, 31, 23));
        b.move(2000, 3, 3);
        b.drop(3001);
        b.track(1000, 0, 0, 0, 5, 0);
        s.due("changes", 4, () -> b.end(6000, true));
        s.due("moved", 3, () -> b.at(2000, 1));
        s.due("with its pad", 4, () -> b.at(3000, 1));
        s.due("dropped", 0, () -> b.at(3001, 0));
        s.due("made", 1, () -> b.at(4000, 0));
    }

    private static void stands(String what, BoardHouse b, int[][] want) {
        for (int[] w : want) {
            s.due(what + ", there of " + w[0], w[1], () -> b.at(w[0], 0));
            s.due(what + ", x of " + w[0], w[2], () -> b.at(w[0], 1));
            s.due(what + ", y of " + w[0], w[3], () -> b.at(w[0], 2));
        }
    }

    private static void endUndoes() {
        BoardHouse b = house(1, 0);
        b.part(2, 2, 30, 22, 0);
        b.pad(2000, 1000, 1, 1);
        b.via(1000, 9, 9);
        b.track(1000, 0, 20, 9, 12, 9);
        b.plane(1000, 0);
        b.work(b.begin(0, 0, 31, 23));
        b.move(2000, 0, 0);
        b.move(2000, 5, 6);
        b.drop(3001);
        b.via(1000, 9, 9);
        b.drop(4000);
        b.drop(5000);
        b.plane(1001, 0);
        b.part(1, 1, 0, 0, 0);
        b.move(2001, 31, 0);
        b.pad(2001, 1002, 0, 0);
        b.drop(2001);
        b.drop(2000);
        b.gap(3);
        s.due("changes", 2 + 2 + 1 + 1 + 1 + 1 + 1 + 1 + 1 + 1 + 2 + 2, () -> b.end(6000, false));
        int[][] want = {
            {2000, 1, 30, 22}, {3000, 1, 31, 23}, {3001, 1, 9, 9}, {4000, 1, 12, 9}, {5000, 1, 0, 0}, {2001, 0, 0, 0},
            {3002, 0, 9, 9}, {5001, 0, 0, 0}, {3003, 0, 31, 0}};
        stands("undone", b, want);
        s.due("its net's plane fills again", 768, () -> b.filled(5000));
        s.due("the gap stays", 3, () -> b.gap(0));
        b.work(b.begin(0, 0, 31, 23));
        s.due("of nothing", 0, () -> b.end(6001, false));
        stands("undone once more", b, want);
    }

    private static void endDoesNotAsk() {
        BoardHouse b = house(1, 0);
        b.via(1000, 9, 9);
        b.begin(0, 0, 9, 9);
        b.begin(20, 0, 29, 9);
        b.work(6000);
        b.drop(3000);
        b.work(0);
        b.via(1001, 10, 9);
        b.gap(4);
        b.work(6001);
        s.due("it is undone from another act", 1, () -> b.end(6000, false));
        s.due("though it clashes", 1, b::check);
        s.due("it is there", 1, () -> b.at(3000, 0));
        s.due("it still works in the other", false, () -> b.work(6001));
    }

    private static void endThrows() {
        BoardHouse b = Sentences.oneOfEach();
        b.work(6000);
        for (int h : Sentences.NOT_GIVEN) {
            s.index("act " + h, () -> b.end(h, false));
        }
        for (int h : Sentences.ofOtherKind(6)) {
            s.argument("act " + h, () -> b.end(h, false));
        }
        s.due("nothing was ended", false, () -> b.work(6000));
        b.via(1000, 30, 22);
        s.index("none, 0", () -> b.end(0, false));
        s.due("nothing was undone", 1, () -> b.at(3002, 0));
        s.due("ended", 1, () -> b.end(6000, true));
        s.state("ended, kept", () -> b.end(6000, true));
        s.state("ended, and now not kept", () -> b.end(6000, false));
        s.due("it stays", 1, () -> b.at(3002, 0));
    }

    private static void version() {
        BoardHouse b = house(1, 0);
        s.due("of nothing", 7000, b::version);
        s.due("told", 0, b::told);
        b.part(2, 2, 30, 22, 0);
        b.via(1000, 31, 23);
        b.via(1000, 0, 23);
        b.drop(3001);
        s.due("of some", 7001, b::version);
        b.move(2000, 0, 0);
        b.drop(3000);
        s.due("back to it", 2, () -> b.back(7001));
        stands("as it was", b, new int[][] {{2000, 1, 30, 22}, {3000, 1, 31, 23}, {3001, 0, 0, 23}});
        s.due("back to nothing", 2, () -> b.back(7000));
        s.due("no part", 0, () -> b.count(2));
        s.due("of nothing again", 7002, b::version);
        s.due("which is the same", 0, () -> b.back(7000));
        s.due("forward again", 2, () -> b.back(7001));
    }

    private static void versionFull() {
        BoardHouse b = house(1, 0);
        for (int n = 0; n < 8; n++) {
            int v = 7000 + n;
            s.due("version " + n, v, b::version);
            s.due("told", 0, b::told);
        }
        b.via(1000, 0, 0);
        s.refused("version 8", b, FULL, b::version);
        s.index("it was not given", () -> b.back(7008));
        s.due("the last is as it was", 1, () -> b.back(7007));
        s.refused("version 8 after back", b, FULL, b::version);
    }

    private static void versionThrows() {
        BoardHouse b = house(1, 0);
        b.via(1000, 32, 0);
        b.begin(0, 0, 0, 0);
        b.begin(5, 5, 5, 5);
        s.state("two open", b::version);
        b.work(6000);
        s.state("working in one", b::version);
        b.end(6000, true);
        s.state("one still open", b::version);
        b.end(6001, false);
        s.due("none open", 7000, b::version);
    }

    private static void back() {
        BoardHouse b = house(2, 0);
        b.part(3, 2, 29, 22, 1);
        b.pad(2000, 1000, 2, 1);
        b.pad(2000, 1000, 0, 0);
        b.drop(3001);
        b.via(1000, 0, 0);
        b.track(1000, 1, 31, 0, 31, 20);
        b.plane(1000, 0);
        b.version();
        int[][] want = {
            {2000, 1, 29, 22}, {3000, 1, 31, 23}, {3001, 0, 29, 22}, {3002, 1, 0, 0}, {4000, 1, 31, 0}, {5000, 1, 0, 0}};
        b.move(2000, 0, 1);
        b.drop(2000);
        b.drop(3002);
        b.drop(4000);
        b.drop(5000);
        s.due("all dropped", 5, () -> b.back(7000));
        stands("as in the version", b, want);
        s.due("the part's last cell", true, () -> b.move(2000, 28, 22) && b.at(3000, 1) == 30);
        s.due("moved back", 2, () -> b.back(7000));
        stands("as in the version again", b, want);
        s.refused("the track's last cell", b, CLASH, () -> b.via(1001, 31, 20));
        BoardHouse c = house(1, 0);
        c.via(1000, 5, 5);
        c.via(1001, 6, 6);
        c.version();
        c.drop(3000);
        c.gap(4);
        s.due("also those that clash by now", 1, () -> c.back(7000));
        s.due("which check() tells", 1, c::check);
        s.due("the gap is not of it", 4, () -> c.gap(0));
    }

    private static void backMadeSince() {
        BoardHouse b = house(2, 0);
        b.version();
        b.part(2, 2, 5, 5, 0);
        b.pad(2000, 1000, 0, 0);
        b.via(1000, 9, 9);
        b.track(1000, 0, 0, 0, 5, 0);
        b.plane(1000, 1);
        b.version();
        s.due("to the first", 5, () -> b.back(7000));
        for (int h : new int[] {2000, 3000, 3001, 4000, 5000}) {
            s.due(h + " is not there", 0, () -> b.at(h, 0));
        }
        s.due("they are in nobody's way", 2001, () -> b.part(8, 8, 0, 0, 0));
        s.due("nor is the plane", 5001, () -> b.plane(1001, 1));
        s.due("nor is copper", 3002, () -> b.via(1001, 9, 9));
        s.due("to the second", 5 + 3, () -> b.back(7001));
        for (int h : new int[] {2000, 3000, 3001, 4000, 5000}) {
            s.due(h + " is there again", 1, () -> b.at(h, 0));
        }
        for (int h : new int[] {2001, 3002, 5001}) {
            s.due(h + " is not", 0, () -> b.at(h, 0));
        }
        s.due("nets made since stay", 1003, b::net);
        b.back(7000);
        s.due("also the last", 0, () -> b.islands(1003));
    }

    private static void backCounts() {
        BoardHouse b = house(1, 0);
        b.part(2, 2, 0, 0, 0);
        b.pad(2000, 1000, 0, 0);
        b.pad(2000, 1000, 1, 1);
        b.via(1000, 9, 9);
        b.version();
        s.due("nothing", 0, () -> b.back(7000));
        b.move(2000, 5, 5);
        b.move(2000, 6, 6);
        s.due("a part and its pads, once each", 3, () -> b.back(7000));
        b.move(2000, 5, 5);
        b.move(2000, 0, 0);
        s.due("what is where it was", 0, () -> b.back(7000));
        b.move(2000, 5, 5);
        b.drop(2000);
        s.due("moved and dropped, once each", 3, () -> b.back(7000));
        b.via(1000, 20, 20);
        s.due("made since", 1, () -> b.back(7000));
        b.via(1000, 20, 20);
        b.drop(3004);
        s.due("made since and dropped", 0, () -> b.back(7000));
        b.move(2000, 0, 1);
        s.due("by y alone", 3, () -> b.back(7000));
        b.move(2000, 1, 0);
        s.due("by x alone", 3, () -> b.back(7000));
        b.drop(3000);
        s.due("a pad alone", 1, () -> b.back(7000));
        s.due("again", 0, () -> b.back(7000));
    }

    private static void backThrows() {
        BoardHouse b = Sentences.oneOfEach();
        b.end(6000, true);
        b.drop(3001);
        for (int h : Sentences.NOT_GIVEN) {
            s.index("version " + h, () -> b.back(h));
        }
        for (int h : Sentences.ofOtherKind(7)) {
            s.argument("version " + h, () -> b.back(h));
        }
        s.due("nothing came back", 0, () -> b.at(3001, 0));
        s.due("one that was given", 1, () -> b.back(7000));
    }

    private static void backNotWhileOpen() {
        BoardHouse b = Sentences.oneOfEach();
        b.drop(3001);
        s.state("an act is open", () -> b.back(7000));
        b.work(6000);
        s.state("it is worked in", () -> b.back(7000));
        b.begin(20, 20, 20, 20);
        b.end(6000, true);
        s.state("another is open", () -> b.back(7000));
        s.due("nothing came back", 0, () -> b.at(3001, 0));
        b.end(6001, false);
        s.due("none is open", 1, () -> b.back(7000));
    }

    private static void toldWhy() {
        BoardHouse b = house(1, 1);
        b.part(2, 2, 0, 0, 0);
        b.pad(2000, 1000, 0, 0);
        b.part(2, 2, 10, 10, 0);
        b.via(1001, 20, 20);
        b.plane(1000, 0);
        s.refused("part outside", b, OUTSIDE, () -> b.part(1, 1, 32, 0, 0));
        s.refused("part on a part", b, OVERLAP, () -> b.part(1, 1, 0, 0, 0));
        s.refused("pad outside", b, OUTSIDE, () -> b.pad(2000, 1000, 2, 0));
        s.refused("pad near another's", b, CLASH, () -> b.pad(2000, 1001, 1, 1));
        s.refused("via outside", b, OUTSIDE, () -> b.via(1000, 0, 24));
        s.refused("via near another's", b, CLASH, () -> b.via(1000, 21, 21));
        s.refused("track outside", b, OUTSIDE, () -> b.track(1000, 0, 0, 0, 0, 24));
        s.refused("track near another's", b, CLASH, () -> b.track(1000, 0, 0, 19, 31, 19));
        s.refused("plane on a plane", b, OVERLAP, () -> b.plane(1000, 0));
        s.refused("move outside", b, OUTSIDE, () -> b.move(2000, 31, 0));
        s.refused("move on a part", b, OVERLAP, () -> b.move(2000, 9, 9));
        s.refused("move near another's", b, CLASH, () -> b.move(2000, 21, 20));
        s.refused("begin outside", b, OUTSIDE, () -> b.begin(0, 0, 32, 0));
        b.begin(0, 0, 0, 0);
        s.refused("part barred", b, BARRED, () -> b.part(1, 1, 0, 0, 0));
        s.refused("pad barred", b, BARRED, () -> b.pad(2000, 1000, 0, 0));
        s.refused("via barred", b, BARRED, () -> b.via(1000, 0, 0));
        s.refused("track barred", b, BARRED, () -> b.track(1000, 0, 0, 0, 5, 0));
        s.refused("plane barred", b, BARRED, () -> b.plane(1000, 0));
        s.refused("move barred", b, BARRED, () -> b.move(2000, 5, 5));
        s.refused("drop barred", b, BARRED, () -> b.drop(2000));
        s.refused("begin barred", b, BARRED, () -> b.begin(0, 0, 1, 1));
        BoardHouse full = new BoardHouse(1, 0);
        for (int n = 0; n < 20; n++) {
            full.net();
        }
        for (int n = 0; n < 8; n++) {
            full.version();
        }
        s.refused("net full", full, FULL, full::net);
        full.via(1000, 0, 0);
        s.refused("version full", full, FULL, full::version);
    }

    private static void toldNot() {
        BoardHouse b = house(1, 0);
        s.due("at first", 0, b::told);
        afterRefused("net", b, b::net);
        afterRefused("part", b, () -> b.part(2, 2, 0, 0, 0));
        afterRefused("pad", b, () -> b.pad(2000, 1000, 0, 0));
        afterRefused("via", b, () -> b.via(1000, 5, 5));
        afterRefused("track", b, () -> b.track(1000, 0, 5, 5, 9, 5));
        afterRefused("plane", b, () -> b.plane(1000, 0));
        afterRefused("move", b, () -> b.move(2000, 1, 1));
        afterRefused("drop", b, () -> b.drop(2000));
        afterRefused("version", b, b::version);
        afterRefused("begin", b, () -> b.begin(0, 0, 0, 0));
    }

    private static void afterRefused(String what, BoardHouse b, java.util.concurrent.Callable<?> call) {
        s.refused("before " + what, b, OUTSIDE, () -> b.via(1000, 32, 24));
        s.due(what, true, () -> !"-1".equals(Answers.of(call)));
        s.due("told of " + what, 0, b::told);
        s.due("told again", 0, b::told);
    }

    private static void toldNoOther() {
        BoardHouse b = Sentences.oneOfEach();
        s.refused("a part", b, OVERLAP, () -> b.part(1, 1, 1, 1, 0));
        b.gap(1);
        b.islands(1000);
        b.check();
        b.near(0, 0);
        b.near(-1, 0);
        b.filled(5000);
        b.at(2000, 0);
        b.count(2);
        s.due("those that look", OVERLAP, b::told);
        b.work(6000);
        b.work(0);
        s.due("work", OVERLAP, b::told);
        b.end(6000, false);
        s.due("end", OVERLAP, b::told);
        b.back(7000);
        s.due("back", OVERLAP, b::told);
        s.due("and told itself", OVERLAP, b::told);
    }

    private static void toldNotOfThrows() {
        BoardHouse b = Sentences.oneOfEach();
        s.refused("a part", b, OVERLAP, () -> b.part(1, 1, 1, 1, 0));
        s.argument("part", () -> b.part(0, 1, 0, 0, 0));
        s.due("told after part", OVERLAP, b::told);
        s.index("pad", () -> b.pad(2001, 1000, 0, 0));
        s.argument("pad", () -> b.pad(1000, 1000, 0, 0));
        s.argument("pad of no net", () -> b.pad(2000, 2000, 0, 0));
        s.due("told after pad", OVERLAP, b::told);
        s.index("via", () -> b.via(1003, 0, 0));
        s.argument("via", () -> b.via(2000, 0, 0));
        s.due("told after via", OVERLAP, b::told);
        s.index("track", () -> b.track(1000, 2, 0, 0, 0, 0));
        s.argument("track", () -> b.track(1000, 0, 0, 0, 1, 1));
        s.due("told after track", OVERLAP, b::told);
        s.index("plane", () -> b.plane(1000, 2));
        s.argument("plane", () -> b.plane(2000, 0));
        s.due("told after plane", OVERLAP, b::told);
        s.index("move", () -> b.move(2001, 0, 0));
        s.argument("move", () -> b.move(1000, 0, 0));
        s.due("told after move", OVERLAP, b::told);
        s.index("drop", () -> b.drop(2001));
        s.argument("drop", () -> b.drop(1000));
        s.due("told after drop", OVERLAP, b::told);
        s.state("version", b::version);
        s.due("told after version", OVERLAP, b::told);
        b.drop(3001);
        s.due("told of a drop", 0, b::told);
        s.state("a second drop", () -> b.drop(3001));
        s.due("told after it", 0, b::told);
        b.drop(2000);
        s.refused("a via", b, OUTSIDE, () -> b.via(1000, 32, 0));
        s.state("pad of a dropped part", () -> b.pad(2000, 1000, 0, 0));
        s.due("told after that pad", OUTSIDE, b::told);
        s.state("move of a dropped part", () -> b.move(2000, 5, 5));
        s.due("told after that move", OUTSIDE, b::told);
        s.state("drop of a dropped part", () -> b.drop(2000));
        s.due("told after that drop", OUTSIDE, b::told);
    }
}
