/** The boundary cases that promises 10 to 16 name, sentence by sentence. */
public final class LooksBoundaryTest {
    private static final int MIN = Sentences.MIN;
    private static final int MAX = Sentences.MAX;
    private static final int OUTSIDE = Sentences.OUTSIDE;
    private static final int CLASH = Sentences.CLASH;
    private static final Sentences s = new Sentences();

    public static void main(String[] args) {
        gapAndIslands();
        checkAndNear();
        filledAtAndCount();
        s.finish("LooksBoundaryTest");
    }

    private static void gapAndIslands() {
        s.test("10", "The GAP (0 .. 4) from now on: what it was.", LooksBoundaryTest::gap);
        s.test("10", "(It clashes with nothing: check() tells.)", LooksBoundaryTest::gapClashesWithNothing);
        s.test("10", "IllegalArgumentException, when v is not so.", LooksBoundaryTest::gapThrows);
        s.test("11", "How many ISLANDS of a net have a pad or via.", LooksBoundaryTest::islands);
        s.test("11", "Throws like via().", LooksBoundaryTest::islandsThrows);
    }

    private static void checkAndNear() {
        s.test("12", "How many pairs of THINGS THERE CLASH.", LooksBoundaryTest::check);
        s.test("12, on a full board", "How many pairs of THINGS THERE CLASH.", LooksBoundaryTest::checkFull);
        s.test("13", "Of the k-th such pair, by the HANDLE of the lower one, then of the other one", LooksBoundaryTest::near);
        s.test("13", "NONE, when there are not so many (or k is below 0).", LooksBoundaryTest::nearNone);
        s.test("13", "IndexOutOfBoundsException, for another which.", LooksBoundaryTest::nearThrows);
    }

    private static void filledAtAndCount() {
        s.test("14", "How many CELLS a plane FILLS.", LooksBoundaryTest::filled);
        s.test("14, not given",
                "IndexOutOfBoundsException, IllegalArgumentException, IllegalStateException as of a part in pad(), for planes.",
                LooksBoundaryTest::filledNotGiven);
        s.test("14, of another kind", "IllegalArgumentException, IllegalStateException as of a part in pad(), for planes.",
                LooksBoundaryTest::filledOtherKind);
        s.test("14, not there", "IllegalStateException as of a part in pad(), for planes.", LooksBoundaryTest::filledNotThere);
        s.test("15", "Of a THING: 1 when it is THERE, else 0 (what 0)", LooksBoundaryTest::atThere);
        s.test("15", "its x (1) and y (2) (of a track the lower ones; of a plane 0)", LooksBoundaryTest::atPlace);
        s.test("15", "its layer, or SIDE, or 0 of a pad or via (3)", LooksBoundaryTest::atLayer);
        s.test("15", "its net's HANDLE, or NONE (4)", LooksBoundaryTest::atNet);
        s.test("15", "a pad's part, or NONE (5)", LooksBoundaryTest::atPart);
        s.test("15", "IndexOutOfBoundsException, IllegalArgumentException as in drop()", LooksBoundaryTest::atThrows);
        s.test("15", "IndexOutOfBoundsException, for another what.", LooksBoundaryTest::atOtherWhat);
        s.test("16", "How many THINGS of a KIND (2 .. 5) are THERE.", LooksBoundaryTest::count);
        s.test("16", "IndexOutOfBoundsException, when it is no such KIND.", LooksBoundaryTest::countThrows);
    }

    private static BoardHouse house(int layers, int gap) {
        return Sentences.house(layers, gap);
    }

    private static void gap() {
        BoardHouse b = house(1, 2);
        int was = 2;
        for (int v : new int[] {0, 4, 4, 1, 3, 0}) {
            int old = was;
            s.due("from " + old + " to " + v, old, () -> b.gap(v));
            was = v;
        }
        for (int v = 0; v <= 4; v++) {
            int g = v;
            BoardHouse c = house(1, 4 - g);
            c.via(1000, 16, 12);
            c.gap(g);
            s.refused("at the gap " + g, c, CLASH, () -> c.via(1001, 16 + g, 12 + g));
            s.due("just beyond it", 3001, () -> c.via(1001, 17 + g, 12 + g));
        }
    }

    private static void gapClashesWithNothing() {
        BoardHouse b = house(1, 0);
        b.via(1000, 5, 5);
        b.via(1001, 9, 9);
        b.via(1002, 32, 0);
        int[] pairs = {0, 0, 0, 0, 1};
        for (int v = 0; v <= 4; v++) {
            int g = v;
            s.due("to " + g, Math.max(0, g - 1), () -> b.gap(g));
            s.due("pairs", pairs[g], b::check);
        }
        s.due("it is no call that can be refused", OUTSIDE, b::told);
        s.due("both stay", 2, () -> b.count(3));
        s.due("back to 3", 4, () -> b.gap(3));
        s.due("no pairs", 0, b::check);
        b.begin(0, 0, 31, 23);
        s.due("no act bars it", 3, () -> b.gap(4));
        b.work(6000);
        s.due("nor the one it works in", 4, () -> b.gap(1));
        s.due("it is no change of an act", 0, () -> b.end(6000, false));
        s.due("and is not undone", 1, () -> b.gap(1));
    }

    private static void gapThrows() {
        BoardHouse b = house(1, 3);
        for (int v : new int[] {MIN, -1, 5, 6, MAX}) {
            s.argument("gap " + v, () -> b.gap(v));
        }
        s.due("it stays", 3, () -> b.gap(0));
        s.argument("below", () -> b.gap(-1));
        s.due("it stays", 0, () -> b.gap(4));
        s.argument("above", () -> b.gap(5));
        s.due("it stays", 4, () -> b.gap(4));
    }

    private static void islands() {
        BoardHouse b = house(2, 0);
        s.due("of nothing", 0, () -> b.islands(1000));
        b.track(1000, 0, 0, 0, 31, 0);
        b.track(1000, 0, 0, 5, 31, 5);
        s.due("of tracks alone", 0, () -> b.islands(1000));
        b.plane(1000, 1);
        s.due("of a plane alone", 0, () -> b.islands(1000));
        b.drop(5000);
        b.via(1000, 3, 0);
        s.due("with a via", 1, () -> b.islands(1000));
        b.via(1000, 9, 0);
        s.due("with two vias", 1, () -> b.islands(1000));
        b.part(1, 1, 3, 5, 0);
        b.pad(2000, 1000, 0, 0);
        s.due("two with a pad or via", 2, () -> b.islands(1000));
        s.due("of another net", 0, () -> b.islands(1001));
        b.drop(2000);
        s.due("a dropped pad", 1, () -> b.islands(1000));
        b.drop(3000);
        b.drop(3001);
        s.due("dropped vias", 0, () -> b.islands(1000));
        BoardHouse full = house(4, 0);
        for (int n = 0; n < 60; n++) {
            full.via(1000, 2 * (n % 16), 2 * (n / 16));
        }
        s.due("sixty apart", 60, () -> full.islands(1000));
        full.plane(1000, 3);
        s.due("sixty on a plane", 1, () -> full.islands(1000));
    }

    private static void islandsThrows() {
        BoardHouse b = Sentences.oneOfEach();
        for (int h : Sentences.NOT_GIVEN) {
            s.index("net " + h, () -> b.islands(h));
        }
        for (int h : Sentences.ofOtherKind(1)) {
            s.argument("net " + h, () -> b.islands(h));
        }
        s.due("the last net", 0, () -> b.islands(1002));
    }

    private static void check() {
        BoardHouse b = house(2, 0);
        s.due("of nothing", 0, b::check);
        b.via(1000, 5, 5);
        s.due("of one", 0, b::check);
        b.via(1001, 6, 5);
        b.via(1002, 5, 6);
        b.via(1002, 6, 6);
        s.due("at gap 0", 0, b::check);
        b.gap(1);
        s.due("all pairs but the one of a net", 5, b::check);
        b.track(1000, 0, 5, 4, 5, 0);
        s.due("a refused track is none", 5, b::check);
        b.drop(3000);
        s.due("without a dropped one", 2, b::check);
        b.part(2, 2, 5, 5, 0);
        b.plane(1000, 0);
        s.due("parts and planes are none", 2, b::check);
        b.drop(3001);
        s.due("of one net", 0, b::check);
        BoardHouse c = house(2, 0);
        c.track(1000, 0, 5, 5, 9, 5);
        c.track(1001, 1, 5, 5, 9, 5);
        c.track(1001, 0, 5, 7, 9, 7);
        c.gap(1);
        s.due("tracks of two layers", 0, c::check);
        c.gap(2);
        s.due("tracks of one layer", 1, c::check);
    }

    private static void checkFull() {
        BoardHouse b = house(1, 0);
        for (int n = 0; n < 60; n++) {
            b.via(1000 + n % 2, n % 8, n / 8);
            b.track(1000 + n % 2, 0, n % 8, n / 8, n % 8, n / 8);
        }
        s.due("at gap 0", 0, b::check);
        s.due("gap", 0, () -> b.gap(4));
        int pairs = 0;
        for (int n = 0; n < 60; n++) {
            for (int m = 0; m < n; m++) {
                boolean isNear = Math.abs(n % 8 - m % 8) <= 4 && n / 8 - m / 8 <= 4;
                pairs += isNear && n % 2 != m % 2 ? 4 : 0;
            }
        }
        int most = pairs;
        s.due("at gap 4", most, b::check);
        s.due("the last pair's lower", true, () -> b.near(most - 1, 0) > 0);
        s.due("the last pair's other", true, () -> b.near(most - 1, 1) > b.near(most - 1, 0));
        s.due("one beyond it", -1, () -> b.near(most, 0));
    }

    private static void near() {
        BoardHouse b = house(1, 0);
        b.track(1002, 0, 5, 7, 9, 7);
        b.via(1000, 9, 5);
        b.via(1001, 7, 5);
        b.via(1000, 5, 5);
        b.track(1001, 0, 5, 9, 9, 9);
        b.gap(2);
        int[][] want = {{3000, 3001}, {3000, 4000}, {3001, 3002}, {3001, 4000}, {3002, 4000}, {4000, 4001}};
        s.due("pairs", want.length, b::check);
        for (int i = 0; i < want.length; i++) {
            int k = i;
            s.due("lower of " + k, want[k][0], () -> b.near(k, 0));
            s.due("other of " + k, want[k][1], () -> b.near(k, 1));
        }
        b.drop(3001);
        int[][] left = {{3000, 4000}, {3002, 4000}, {4000, 4001}};
        for (int i = 0; i < left.length; i++) {
            int k = i;
            s.due("lower of " + k + ", one dropped", left[k][0], () -> b.near(k, 0));
            s.due("other of " + k + ", one dropped", left[k][1], () -> b.near(k, 1));
        }
    }

    private static void nearNone() {
        BoardHouse b = house(1, 0);
        for (int k : new int[] {MIN, -1, 0, 1, MAX}) {
            s.due("pair " + k + " of none", -1, () -> b.near(k, 0));
            s.due("pair " + k + " of none", -1, () -> b.near(k, 1));
        }
        b.via(1000, 5, 5);
        b.via(1001, 6, 5);
        b.gap(1);
        s.due("pair 0 of one", 3000, () -> b.near(0, 0));
        s.due("pair 0 of one", 3001, () -> b.near(0, 1));
        for (int k : new int[] {MIN, -1, 1, 2, MAX}) {
            s.due("pair " + k + " of one", -1, () -> b.near(k, 0));
            s.due("pair " + k + " of one", -1, () -> b.near(k, 1));
        }
        s.due("it is no call that can be refused", 0, b::told);
    }

    private static void nearThrows() {
        BoardHouse b = house(1, 0);
        b.via(1000, 5, 5);
        b.via(1001, 6, 5);
        b.gap(1);
        for (int which : new int[] {MIN, -1, 2, 3, MAX}) {
            for (int k : new int[] {-1, 0, 1}) {
                s.index("pair " + k + ", which " + which, () -> b.near(k, which));
            }
        }
    }

    private static void filled() {
        BoardHouse b = house(1, 0);
        b.plane(1000, 0);
        s.due("nothing", 0, () -> b.filled(5000));
        b.via(1000, 0, 0);
        s.due("everything", 768, () -> b.filled(5000));
        b.track(1001, 0, 1, 0, 31, 0);
        b.track(1001, 0, 0, 1, 31, 1);
        s.due("one cell", 1, () -> b.filled(5000));
        b.via(1000, 0, 23);
        s.due("and the rest", 1 + 22 * 32, () -> b.filled(5000));
        b.gap(4);
        // Its vias' cells: 0, 0 is near the tracks; rows 0 to 5 are.
        s.due("at gap 4", 18 * 32, () -> b.filled(5000));
        // A way through the whole board, of one cell's width, that turns at the end of every second row.
        BoardHouse c = house(1, 0);
        for (int row = 1; row < 24; row += 2) {
            int from = row % 4 == 1 ? 0 : 1;
            c.track(1001, 0, from, row, from + 30, row);
        }
        c.via(1000, 0, 0);
        c.plane(1000, 0);
        s.due("a winding way", 12 * 32 + 12, () -> c.filled(5000));
        c.via(1001, 16, 12);
        s.due("cut in its middle", 6 * 32 + 6 + 16, () -> c.filled(5000));
    }

    private static void filledNotGiven() {
        BoardHouse b = Sentences.oneOfEach();
        for (int h : Sentences.NOT_GIVEN) {
            s.index("plane " + h, () -> b.filled(h));
        }
        s.due("one that was", 768, () -> b.filled(5000));
    }

    private static void filledOtherKind() {
        BoardHouse b = Sentences.oneOfEach();
        for (int h : Sentences.ofOtherKind(5)) {
            s.argument("plane " + h, () -> b.filled(h));
        }
    }

    private static void filledNotThere() {
        BoardHouse b = house(1, 0);
        b.via(1000, 0, 0);
        b.version();
        b.plane(1000, 0);
        s.due("there", 768, () -> b.filled(5000));
        b.drop(5000);
        s.state("dropped", () -> b.filled(5000));
        b.plane(1000, 0);
        s.state("dropped, and another is there", () -> b.filled(5000));
        b.back(7000);
        s.state("made since a version", () -> b.filled(5001));
        b.work(b.begin(0, 0, 31, 23));
        b.plane(1000, 0);
        b.end(6000, false);
        s.state("undone", () -> b.filled(5002));
    }

    private static void atThere() {
        BoardHouse b = Sentences.oneOfEach();
        b.end(6000, true);
        for (int h : new int[] {3000, 5000, 4000, 3001, 2000}) {
            s.due(h + " before", 1, () -> b.at(h, 0));
            b.drop(h);
            s.due(h + " dropped", 0, () -> b.at(h, 0));
        }
        b.back(7000);
        for (int h : new int[] {2000, 3000, 3001, 4000, 5000}) {
            s.due(h + " brought back", 1, () -> b.at(h, 0));
        }
    }

    private static void place(String what, BoardHouse b, int handle, int x, int y) {
        s.due(what + " x", x, () -> b.at(handle, 1));
        s.due(what + " y", y, () -> b.at(handle, 2));
    }

    private static void atPlace() {
        BoardHouse b = house(2, 0);
        b.part(1, 1, 31, 23, 0);
        b.part(8, 8, 24, 15, 1);
        b.pad(2001, 1000, 7, 7);
        b.via(1000, 0, 23);
        b.track(1000, 0, 31, 5, 3, 5);
        b.track(1000, 0, 3, 5, 31, 5);
        b.track(1000, 0, 4, 23, 4, 2);
        b.track(1000, 0, 4, 2, 4, 23);
        b.plane(1000, 1);
        int[][] want = {
            {2000, 31, 23}, {2001, 24, 15}, {3000, 31, 22}, {3001, 0, 23}, {4000, 3, 5}, {4001, 3, 5}, {4002, 4, 2},
            {4003, 4, 2}, {5000, 0, 0}};
        for (int[] w : want) {
            place("of " + w[0], b, w[0], w[1], w[2]);
        }
        for (int[] w : want) {
            b.drop(w[0] == 3000 ? 2001 : w[0] == 2001 ? 3000 : w[0]);
            place("of " + w[0] + " dropped", b, w[0], w[1], w[2]);
        }
    }

    private static void atLayer() {
        BoardHouse b = house(4, 0);
        b.part(2, 2, 0, 0, 0);
        b.part(2, 2, 0, 0, 1);
        b.pad(2001, 1000, 0, 0);
        b.via(1000, 5, 5);
        for (int layer = 0; layer < 4; layer++) {
            b.track(1000, layer, 9, 9, 9, 9);
            b.plane(1000, layer);
        }
        int[][] want = {
            {2000, 0}, {2001, 1}, {3000, 0}, {3001, 0}, {4000, 0}, {4001, 1}, {4002, 2}, {4003, 3}, {5000, 0}, {5001, 1},
            {5002, 2}, {5003, 3}};
        for (int[] w : want) {
            s.due("of " + w[0], w[1], () -> b.at(w[0], 3));
        }
    }

    private static void atNet() {
        BoardHouse b = Sentences.oneOfEach();
        b.via(1002, 5, 5);
        int[][] want = {{2000, -1}, {3000, 1000}, {3001, 1000}, {3002, 1002}, {4000, 1000}, {5000, 1000}};
        for (int[] w : want) {
            s.due("of " + w[0], w[1], () -> b.at(w[0], 4));
        }
        b.drop(3002);
        s.due("of a dropped via", 1002, () -> b.at(3002, 4));
    }

    private static void atPart() {
        BoardHouse b = Sentences.oneOfEach();
        b.part(1, 1, 5, 5, 0);
        b.pad(2001, 1000, 0, 0);
        int[][] want = {{2000, -1}, {2001, -1}, {3000, 2000}, {3001, -1}, {3002, 2001}, {4000, -1}, {5000, -1}};
        for (int[] w : want) {
            s.due("of " + w[0], w[1], () -> b.at(w[0], 5));
        }
        b.drop(2001);
        s.due("of a dropped pad", 2001, () -> b.at(3002, 5));
    }

    private static void atThrows() {
        BoardHouse b = Sentences.oneOfEach();
        for (int h : Sentences.NOT_GIVEN) {
            s.index("of " + h, () -> b.at(h, 0));
        }
        for (int h : new int[] {1000, 1002, 6000, 7000}) {
            for (int what = 0; what <= 5; what++) {
                int w = what;
                s.argument("of " + h + ", " + w, () -> b.at(h, w));
            }
        }
    }

    private static void atOtherWhat() {
        BoardHouse b = Sentences.oneOfEach();
        for (int h : new int[] {2000, 3000, 3001, 4000, 5000, 1000}) {
            for (int what : new int[] {MIN, -1, 6, 7, MAX}) {
                s.index("of " + h + ", " + what, () -> b.at(h, what));
            }
        }
    }

    private static void count() {
        BoardHouse b = house(1, 0);
        int[] none = {0, 0, 0, 0};
        counts("of nothing", b, none);
        b.part(2, 2, 0, 0, 0);
        b.pad(2000, 1000, 0, 0);
        b.pad(2000, 1000, 1, 1);
        b.via(1000, 9, 9);
        b.track(1000, 0, 0, 0, 5, 0);
        b.track(1000, 0, 0, 0, 5, 0);
        b.plane(1000, 0);
        counts("of some", b, new int[] {1, 3, 2, 1});
        b.part(1, 1, 0, 0, 0);
        b.plane(1000, 0);
        counts("refused ones are none", b, new int[] {1, 3, 2, 1});
        b.drop(2000);
        counts("a part dropped", b, new int[] {0, 1, 2, 1});
        b.drop(4000);
        b.drop(5000);
        b.drop(3002);
        counts("more dropped", b, new int[] {0, 0, 1, 0});
        BoardHouse full = house(1, 0);
        for (int n = 0; n < 60; n++) {
            full.part(1, 1, n % 32, n / 32, 0);
            full.via(1000, 5, 5);
            full.track(1000, 0, 5, 5, 5, 5);
        }
        counts("of all that can be", full, new int[] {20, 60, 60, 0});
    }

    private static void counts(String what, BoardHouse b, int[] want) {
        for (int kind = 2; kind <= 5; kind++) {
            int k = kind;
            s.due(what + ", kind " + k, want[k - 2], () -> b.count(k));
        }
    }

    private static void countThrows() {
        BoardHouse b = Sentences.oneOfEach();
        for (int kind : new int[] {MIN, -1, 0, 1, 6, 7, 8, 1000, 2000, MAX}) {
            s.index("kind " + kind, () -> b.count(kind));
        }
        s.due("kind 2", 1, () -> b.count(2));
        s.due("kind 5", 1, () -> b.count(5));
    }
}
