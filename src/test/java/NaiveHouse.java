import java.util.ArrayDeque;
import java.util.ArrayList;
import java.util.Arrays;
import java.util.Deque;
import java.util.HashMap;
import java.util.HashSet;
import java.util.List;
import java.util.Map;
import java.util.Set;
import java.util.TreeMap;

/** The document once more, cell by cell and change by change, as slow and plain as can be. */
final class NaiveHouse {
    private static final int[] MOST = {0, 20, 20, 60, 60, 10, 10, 8};

    /** A cell of a layer as one number. */
    private static int cell(int layer, int x, int y) {
        return layer * 10000 + x * 100 + y;
    }

    private static boolean onBoard(long x, long y) {
        return x >= 0 && x < 32 && y >= 0 && y < 24;
    }

    private static final class Item {
        int handle;
        int kind;
        int x;
        int y;
        int w = 1;
        int h = 1;
        int layer;
        int net = -1;
        int part = -1;
        boolean there;

        Set<Integer> spots() {
            Set<Integer> spots = new HashSet<>();
            for (int i = 0; i < w; i++) {
                for (int j = 0; j < h; j++) {
                    spots.add(cell(0, x + i, y + j));
                }
            }
            return spots;
        }

        Set<Integer> copper(int layers) {
            Set<Integer> cells = new HashSet<>();
            for (int l = 0; l < layers && (kind == 3 || kind == 4); l++) {
                if (kind == 3 || l == layer) {
                    for (int spot : spots()) {
                        cells.add(l * 10000 + spot);
                    }
                }
            }
            return cells;
        }
    }

    private record Change(Item item, boolean there, int x, int y) { }

    private static final class Deed {
        final Set<Integer> region = new HashSet<>();
        final List<Change> changes = new ArrayList<>();
        boolean open = true;
    }

    private final int layers;
    private int gap;
    private int told = 0;
    private int nets = 0;
    private final TreeMap<Integer, Item> items = new TreeMap<>();
    private final List<Deed> deeds = new ArrayList<>();
    private final List<Map<Integer, int[]>> versions = new ArrayList<>();
    private Deed current = null;

    NaiveHouse(int layers, int gap) {
        this.layers = layers < 1 ? 1 : layers > 4 ? 4 : layers;
        this.gap = gap < 0 ? 0 : gap > 4 ? 4 : gap;
    }

    private int given(int kind) {
        switch (kind) {
            case 1: return nets;
            case 6: return deeds.size();
            case 7: return versions.size();
            default: return (int) items.values().stream().filter(i -> i.kind == kind).count();
        }
    }

    private boolean wasGiven(int handle) {
        for (int kind = 1; kind <= 7; kind++) {
            for (int n = 0; n < given(kind); n++) {
                if (handle == 1000 * kind + n) {
                    return true;
                }
            }
        }
        return false;
    }

    private static void index(boolean bad) {
        if (bad) {
            throw new IndexOutOfBoundsException();
        }
    }

    private static void argument(boolean bad) {
        if (bad) {
            throw new IllegalArgumentException();
        }
    }

    private static void state(boolean bad) {
        if (bad) {
            throw new IllegalStateException();
        }
    }

    private static boolean isOf(int handle, int kind) {
        return handle >= 1000 * kind && handle < 1000 * kind + 1000;
    }

    private int refuse(int why) {
        told = why;
        return -1;
    }

    private boolean anyOpen() {
        return deeds.stream().anyMatch(d -> d.open);
    }

    private boolean barred(Set<Integer> spots) {
        if (current != null && !current.region.containsAll(spots)) {
            return true;
        }
        return deeds.stream().filter(d -> d.open && d != current)
                .anyMatch(d -> d.region.stream().anyMatch(spots::contains));
    }

    private boolean clash(Item a, Item b) {
        if (a.net == b.net) {
            return false;
        }
        for (int p : a.copper(layers)) {
            for (int q : b.copper(layers)) {
                if (near(p, q)) {
                    return true;
                }
            }
        }
        return false;
    }

    private boolean near(int p, int q) {
        return p / 10000 == q / 10000 && Math.abs(p / 100 % 100 - q / 100 % 100) <= gap
                && Math.abs(p % 100 - q % 100) <= gap;
    }

    private void note(Item item, boolean there) {
        if (current != null) {
            current.changes.add(new Change(item, there, item.x, item.y));
        }
    }

    private int add(Item item) {
        note(item, false);
        item.there = true;
        item.handle = 1000 * item.kind + given(item.kind);
        items.put(item.handle, item);
        told = 0;
        return item.handle;
    }

    private int addCopper(Item item) {
        if (barred(item.spots())) {
            return refuse(3);
        }
        for (Item other : items.values()) {
            if (other.there && clash(item, other)) {
                return refuse(5);
            }
        }
        return add(item);
    }

    int net() {
        if (nets == 20) {
            return refuse(1);
        }
        told = 0;
        return 1000 + nets++;
    }

    private boolean overlaps(Item part) {
        return items.values().stream().anyMatch(o -> o != part && o.there && o.kind == 2
                && o.layer == part.layer && o.spots().stream().anyMatch(part.spots()::contains));
    }

    int part(int w, int h, int x, int y, int side) {
        argument(w < 1 || w > 8 || h < 1 || h > 8 || side < 0 || side > 1);
        if (given(2) == 20) {
            return refuse(1);
        }
        if (!onBoard(x, y) || !onBoard((long) x + w - 1, (long) y + h - 1)) {
            return refuse(2);
        }
        Item part = new Item();
        part.kind = 2;
        part.x = x;
        part.y = y;
        part.w = w;
        part.h = h;
        part.layer = side;
        if (barred(part.spots())) {
            return refuse(3);
        }
        return overlaps(part) ? refuse(4) : add(part);
    }

    int pad(int part, int net, int dx, int dy) {
        index(!wasGiven(part) || !wasGiven(net));
        argument(!isOf(part, 2) || !isOf(net, 1));
        Item owner = items.get(part);
        state(!owner.there);
        if (given(3) == 60) {
            return refuse(1);
        }
        if (dx < 0 || dx >= owner.w || dy < 0 || dy >= owner.h) {
            return refuse(2);
        }
        return addCopper(point(net, owner.x + dx, owner.y + dy, part));
    }

    private static Item point(int net, int x, int y, int part) {
        Item point = new Item();
        point.kind = 3;
        point.x = x;
        point.y = y;
        point.net = net;
        point.part = part;
        return point;
    }

    int via(int net, int x, int y) {
        index(!wasGiven(net));
        argument(!isOf(net, 1));
        if (given(3) == 60) {
            return refuse(1);
        }
        return onBoard(x, y) ? addCopper(point(net, x, y, -1)) : refuse(2);
    }

    int track(int net, int layer, int x0, int y0, int x1, int y1) {
        index(!wasGiven(net) || layer < 0 || layer >= layers);
        argument(!isOf(net, 1) || (x0 != x1 && y0 != y1));
        if (given(4) == 60) {
            return refuse(1);
        }
        if (!onBoard(x0, y0) || !onBoard(x1, y1)) {
            return refuse(2);
        }
        Item track = point(net, Math.min(x0, x1), Math.min(y0, y1), -1);
        track.kind = 4;
        track.layer = layer;
        track.w = Math.abs(x1 - x0) + 1;
        track.h = Math.abs(y1 - y0) + 1;
        return addCopper(track);
    }

    int plane(int net, int layer) {
        index(!wasGiven(net) || layer < 0 || layer >= layers);
        argument(!isOf(net, 1));
        if (given(5) == 10) {
            return refuse(1);
        }
        Item plane = point(net, 0, 0, -1);
        plane.kind = 5;
        plane.layer = layer;
        plane.w = 32;
        plane.h = 24;
        if (barred(plane.spots())) {
            return refuse(3);
        }
        boolean taken = items.values().stream().anyMatch(i -> i.there && i.kind == 5 && i.layer == layer);
        return taken ? refuse(4) : add(plane);
    }

    private List<Item> withPads(Item lead) {
        List<Item> all = new ArrayList<>(List.of(lead));
        for (Item item : items.values()) {
            if (item.there && item.kind == 3 && item.part == lead.handle) {
                all.add(item);
            }
        }
        return all;
    }

    boolean move(int part, int x, int y) {
        index(!wasGiven(part));
        argument(!isOf(part, 2));
        Item lead = items.get(part);
        state(!lead.there);
        if (!onBoard(x, y) || !onBoard((long) x + lead.w - 1, (long) y + lead.h - 1)) {
            refuse(2);
            return false;
        }
        List<Item> all = withPads(lead);
        Set<Integer> spots = lead.spots();
        int dx = x - lead.x;
        int dy = y - lead.y;
        List<Change> changes = new ArrayList<>();
        for (Item item : all) {
            changes.add(new Change(item, true, item.x, item.y));
            item.x += dx;
            item.y += dy;
        }
        spots.addAll(lead.spots());
        told = barred(spots) ? 3 : overlaps(lead) ? 4 : anyClash(all) ? 5 : 0;
        for (Change change : changes) {
            if (told != 0) {
                change.item.x = change.x;
                change.item.y = change.y;
            } else if (current != null) {
                current.changes.add(change);
            }
        }
        return told == 0;
    }

    private boolean anyClash(List<Item> moved) {
        for (Item other : items.values()) {
            if (other.there && !moved.contains(other)) {
                for (Item item : moved) {
                    if (clash(item, other)) {
                        return true;
                    }
                }
            }
        }
        return false;
    }

    boolean drop(int handle) {
        index(!wasGiven(handle));
        Item lead = items.get(handle);
        argument(lead == null);
        state(!lead.there);
        if (barred(lead.spots())) {
            refuse(3);
            return false;
        }
        for (Item item : withPads(lead)) {
            note(item, true);
            item.there = false;
        }
        told = 0;
        return true;
    }

    int gap(int v) {
        argument(v < 0 || v > 4);
        int old = gap;
        gap = v;
        return old;
    }

    private Set<Integer> fill(Item plane) {
        Set<Integer> free = new HashSet<>();
        for (int spot : plane.spots()) {
            free.add(plane.layer * 10000 + spot);
        }
        Set<Integer> filled = new HashSet<>();
        for (Item item : items.values()) {
            if (item.there && item.net != plane.net) {
                for (int c : item.copper(layers)) {
                    free.removeIf(f -> near(c, f));
                }
            }
        }
        for (Item item : items.values()) {
            if (item.there && item.net == plane.net) {
                item.copper(layers).stream().filter(free::contains).forEach(filled::add);
            }
        }
        Deque<Integer> open = new ArrayDeque<>(filled);
        while (!open.isEmpty()) {
            int c = open.pop();
            for (int step : new int[] {-1, 1, -100, 100}) {
                if (free.contains(c + step) && filled.add(c + step)) {
                    open.push(c + step);
                }
            }
        }
        return filled;
    }

    int filled(int plane) {
        index(!wasGiven(plane));
        argument(!isOf(plane, 5));
        state(!items.get(plane).there);
        return fill(items.get(plane)).size();
    }

    int islands(int net) {
        index(!wasGiven(net));
        argument(!isOf(net, 1));
        Map<Integer, Integer> root = new HashMap<>();
        List<Item> points = new ArrayList<>();
        for (Item item : items.values()) {
            if (item.there && item.net == net) {
                Set<Integer> cells = item.kind == 5 ? fill(item) : item.copper(layers);
                cells.forEach(c -> root.putIfAbsent(c, c));
                if (item.kind == 3) {
                    points.add(item);
                }
            }
        }
        for (int c : new ArrayList<>(root.keySet())) {
            for (int step : new int[] {1, 100}) {
                if (root.containsKey(c + step)) {
                    join(root, c, c + step);
                }
            }
        }
        for (Item point : points) {
            for (int c : point.copper(layers)) {
                join(root, c, cell(0, point.x, point.y));
            }
        }
        Set<Integer> roots = new HashSet<>();
        points.forEach(p -> roots.add(rootOf(root, cell(0, p.x, p.y))));
        return roots.size();
    }

    private static int rootOf(Map<Integer, Integer> root, int c) {
        int r = c;
        while (root.get(r) != r) {
            r = root.get(r);
        }
        return r;
    }

    private static void join(Map<Integer, Integer> root, int a, int b) {
        root.put(rootOf(root, a), rootOf(root, b));
    }

    private List<int[]> pairs() {
        List<int[]> pairs = new ArrayList<>();
        for (Item a : items.values()) {
            for (Item b : items.tailMap(a.handle, false).values()) {
                if (a.there && b.there && clash(a, b)) {
                    pairs.add(new int[] {a.handle, b.handle});
                }
            }
        }
        return pairs;
    }

    int check() {
        return pairs().size();
    }

    int pairEnd(int k, int which) {
        index(which < 0 || which > 1);
        List<int[]> pairs = pairs();
        return k < 0 || k >= pairs.size() ? -1 : pairs.get(k)[which];
    }

    int at(int handle, int what) {
        index(!wasGiven(handle) || what < 0 || what > 5);
        Item i = items.get(handle);
        argument(i == null);
        return new int[] {i.there ? 1 : 0, i.x, i.y, i.layer, i.net, i.part}[what];
    }

    int count(int kind) {
        index(kind < 2 || kind > 5);
        return (int) items.values().stream().filter(i -> i.there && i.kind == kind).count();
    }

    int begin(int x0, int y0, int x1, int y1) {
        if (deeds.size() == 10) {
            return refuse(1);
        }
        if (!onBoard(x0, y0) || !onBoard(x1, y1) || x0 > x1 || y0 > y1) {
            return refuse(2);
        }
        Deed deed = new Deed();
        for (int x = x0; x <= x1; x++) {
            for (int y = y0; y <= y1; y++) {
                deed.region.add(cell(0, x, y));
            }
        }
        for (Deed other : deeds) {
            if (other.open && other.region.stream().anyMatch(deed.region::contains)) {
                return refuse(3);
            }
        }
        deeds.add(deed);
        told = 0;
        return 6000 + deeds.size() - 1;
    }

    private Deed openDeed(int act) {
        index(!wasGiven(act));
        argument(!isOf(act, 6));
        state(!deeds.get(act - 6000).open);
        return deeds.get(act - 6000);
    }

    boolean work(int act) {
        Deed old = current;
        current = act == 0 ? null : openDeed(act);
        return current != old;
    }

    int end(int act, boolean keep) {
        Deed deed = openDeed(act);
        deed.open = false;
        if (current == deed) {
            current = null;
        }
        for (int i = deed.changes.size() - 1; i >= 0 && !keep; i--) {
            Change change = deed.changes.get(i);
            change.item.there = change.there;
            change.item.x = change.x;
            change.item.y = change.y;
        }
        return deed.changes.size();
    }

    private Map<Integer, int[]> standing() {
        Map<Integer, int[]> all = new TreeMap<>();
        items.forEach((handle, i) -> all.put(handle, new int[] {i.there ? 1 : 0, i.x, i.y}));
        return all;
    }

    int version() {
        state(anyOpen());
        if (versions.size() == 8) {
            return refuse(1);
        }
        versions.add(standing());
        told = 0;
        return 7000 + versions.size() - 1;
    }

    int back(int version) {
        index(!wasGiven(version));
        argument(!isOf(version, 7));
        state(anyOpen());
        Map<Integer, int[]> old = standing();
        Map<Integer, int[]> wanted = versions.get(version - 7000);
        items.forEach((handle, i) -> {
            int[] was = wanted.get(handle);
            i.there = was != null && was[0] == 1;
            i.x = was == null ? i.x : was[1];
            i.y = was == null ? i.y : was[2];
        });
        Map<Integer, int[]> now = standing();
        return (int) now.keySet().stream().filter(h -> !Arrays.equals(now.get(h), old.get(h))).count();
    }

    int told() {
        return told;
    }
}
