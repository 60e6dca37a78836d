import java.util.Arrays;

/**
 * Boards of cells and layers with nets, parts, pads, vias, tracks and planes, held by handles.
 * The numbered promises that it keeps stand in the project's document.
 */
public final class BoardHouse {
    /** It was refused. */
    public static final int NONE = -1;

    private static final int UNIT = 1000;
    private static final int NET = 1;
    private static final int PART = 2;
    private static final int POINT = 3;
    private static final int TRACK = 4;
    private static final int PLANE = 5;
    private static final int ACT = 6;
    private static final int VERSION = 7;

    private static final int[] LIMITS = {0, 20, 20, 60, 60, 10, 10, 8};

    // Things lie in one row in the order of their handles: parts, points, tracks, planes.
    private static final int[] FIRST_SLOT = {0, 0, 0, 20, 80, 140};
    private static final int SLOTS = 150;
    private static final int COPPER_FROM = 20;
    private static final int COPPER_END = 140;

    private static final int COLUMNS = 32;
    private static final int ROWS = 24;
    private static final int MOST_LAYERS = 4;
    private static final int MOST_GAP = 4;
    private static final int MOST_WIDE = 8;
    private static final int ALL_CELLS = COLUMNS * ROWS * MOST_LAYERS;

    private static final int FINE = 0;
    private static final int FULL = 1;
    private static final int OUTSIDE = 2;
    private static final int BARRED = 3;
    private static final int OVERLAP = 4;
    private static final int CLASH = 5;

    private final int layers;
    private final Area board = new Area(0, 0, COLUMNS - 1, ROWS - 1);
    private final int[] given = new int[VERSION + 1];
    private final Copper copper;
    private final Thing[] things;
    private final Act[] acts = new Act[LIMITS[ACT]];
    private final Snapshot[] versions = new Snapshot[LIMITS[VERSION]];
    private Act working = null;
    private int reason = FINE;

    public BoardHouse(int layers, int gap) {
        this.layers = Math.max(1, Math.min(MOST_LAYERS, layers));
        this.copper = new Copper(this.layers, Math.max(0, Math.min(MOST_GAP, gap)));
        this.things = copper.things;
    }

    public int net() {
        reason = isFull(NET) ? FULL : FINE;
        return reason == FINE ? nextHandle(NET) : NONE;
    }

    public int part(int w, int h, int x, int y, int side) throws IllegalArgumentException {
        if (w < 1 || w > MOST_WIDE || h < 1 || h > MOST_WIDE) {
            throw new IllegalArgumentException("a part has 1 to 8 cells along x and along y");
        }
        if (side != 0 && side != 1) {
            throw new IllegalArgumentException("a side is 0 or 1");
        }
        Area area = new Area(x, y, x + (w - 1), y + (h - 1));
        return make(new Thing(PART, given[PART], area, side, NONE, NONE), board);
    }

    public int pad(int part, int net, int dx, int dy)
            throws IndexOutOfBoundsException, IllegalArgumentException, IllegalStateException {
        demandGiven(part);
        demandGiven(net);
        demandKind(part, PART);
        demandKind(net, NET);
        Thing owner = demandThing(part);
        demandThere(owner);
        int x = owner.area.lowX + dx;
        int y = owner.area.lowY + dy;
        return make(new Thing(POINT, given[POINT], new Area(x, y, x, y), 0, net, part), owner.area);
    }

    public int via(int net, int x, int y) throws IndexOutOfBoundsException, IllegalArgumentException {
        demandGiven(net);
        demandKind(net, NET);
        return make(new Thing(POINT, given[POINT], new Area(x, y, x, y), 0, net, NONE), board);
    }

    public int track(int net, int layer, int x0, int y0, int x1, int y1)
            throws IndexOutOfBoundsException, IllegalArgumentException {
        demandGiven(net);
        demandLayer(layer);
        demandKind(net, NET);
        if (x0 != x1 && y0 != y1) {
            throw new IllegalArgumentException("a track goes along x or along y");
        }
        Area area = new Area(Math.min(x0, x1), Math.min(y0, y1), Math.max(x0, x1), Math.max(y0, y1));
        return make(new Thing(TRACK, given[TRACK], area, layer, net, NONE), board);
    }

    public int plane(int net, int layer) throws IndexOutOfBoundsException, IllegalArgumentException {
        demandGiven(net);
        demandLayer(layer);
        demandKind(net, NET);
        return make(new Thing(PLANE, given[PLANE], board.startingAt(0, 0), layer, net, NONE), board);
    }

    public boolean move(int part, int x, int y)
            throws IndexOutOfBoundsException, IllegalArgumentException, IllegalStateException {
        demandGiven(part);
        demandKind(part, PART);
        Thing lead = demandThing(part);
        demandThere(lead);
        reason = whyNotMoved(lead, lead.area.startingAt(x, y));
        if (reason == FINE) {
            shiftAll(lead, x - lead.area.lowX, y - lead.area.lowY);
        }
        return reason == FINE;
    }

    public boolean drop(int handle)
            throws IndexOutOfBoundsException, IllegalArgumentException, IllegalStateException {
        demandGiven(handle);
        Thing lead = demandThing(handle);
        demandThere(lead);
        reason = isBarred(lead.area) ? BARRED : FINE;
        if (reason == FINE) {
            removeAll(lead);
        }
        return reason == FINE;
    }

    public int gap(int v) throws IllegalArgumentException {
        if (v < 0 || v > MOST_GAP) {
            throw new IllegalArgumentException("a gap is 0 to 4");
        }
        int old = copper.reach;
        copper.reach = v;
        return old;
    }

    public int islands(int net) throws IndexOutOfBoundsException, IllegalArgumentException {
        demandGiven(net);
        demandKind(net, NET);
        return copper.countIslands(net);
    }

    public int check() {
        int pairs = 0;
        for (int slot = COPPER_FROM; slot < COPPER_END; slot++) {
            pairs += copper.countPartners(slot);
        }
        return pairs;
    }

    public int near(int k, int which) throws IndexOutOfBoundsException {
        if (which != 0 && which != 1) {
            throw new IndexOutOfBoundsException("which is 0 or 1");
        }
        int left = k;
        for (int slot = COPPER_FROM; slot < COPPER_END && left >= 0; slot++) {
            int partners = copper.countPartners(slot);
            if (left < partners) {
                return which == 0 ? copper.handleAt(slot) : copper.partnerOf(slot, left);
            }
            left -= partners;
        }
        return NONE;
    }

    public int filled(int plane)
            throws IndexOutOfBoundsException, IllegalArgumentException, IllegalStateException {
        demandGiven(plane);
        demandKind(plane, PLANE);
        Thing thing = demandThing(plane);
        demandThere(thing);
        return copper.countFilled(thing);
    }

    public int at(int handle, int what) throws IndexOutOfBoundsException, IllegalArgumentException {
        demandGiven(handle);
        if (what < 0 || what > 5) {
            throw new IndexOutOfBoundsException("what is 0 to 5");
        }
        Thing thing = demandThing(handle);
        switch (what) {
            case 0:
                return thing.there ? 1 : 0;
            case 1:
                return thing.area.lowX;
            case 2:
                return thing.area.lowY;
            case 3:
                return thing.layer;
            case 4:
                return thing.netHandle;
            default:
                return thing.partHandle;
        }
    }

    public int count(int kind) throws IndexOutOfBoundsException {
        if (kind < PART || kind > PLANE) {
            throw new IndexOutOfBoundsException("things are of the kinds 2 to 5");
        }
        int number = 0;
        for (Thing thing : things) {
            if (thing != null && thing.there && thing.kind == kind) {
                number++;
            }
        }
        return number;
    }

    public int begin(int x0, int y0, int x1, int y1) {
        Area region = new Area(x0, y0, x1, y1);
        reason = whyNotBegun(region);
        if (reason != FINE) {
            return NONE;
        }
        acts[given[ACT]] = new Act(region);
        return nextHandle(ACT);
    }

    public boolean work(int act)
            throws IndexOutOfBoundsException, IllegalArgumentException, IllegalStateException {
        Act next = act == 0 ? null : demandOpenAct(act);
        boolean isAnother = next != working;
        working = next;
        return isAnother;
    }

    public int end(int act, boolean keep)
            throws IndexOutOfBoundsException, IllegalArgumentException, IllegalStateException {
        Act ended = demandOpenAct(act);
        if (!keep) {
            ended.before.restoreKnown(things);
        }
        ended.open = false;
        if (working == ended) {
            working = null;
        }
        return ended.changes;
    }

    public int version() throws IllegalStateException {
        demandNoOpenAct();
        reason = isFull(VERSION) ? FULL : FINE;
        if (reason != FINE) {
            return NONE;
        }
        Snapshot all = new Snapshot();
        all.noteAll(things);
        versions[given[VERSION]] = all;
        return nextHandle(VERSION);
    }

    public int back(int version)
            throws IndexOutOfBoundsException, IllegalArgumentException, IllegalStateException {
        demandGiven(version);
        demandKind(version, VERSION);
        demandNoOpenAct();
        Snapshot all = versions[version % UNIT];
        return all == null ? 0 : all.restoreAll(things);
    }

    public int told() {
        return reason;
    }

    private void demandGiven(int handle) {
        int kind = handle / UNIT;
        if (handle < UNIT || kind > VERSION || handle % UNIT >= given[kind]) {
            throw new IndexOutOfBoundsException("this number was not given");
        }
    }

    private static void demandKind(int handle, int kind) {
        if (handle / UNIT != kind) {
            throw new IllegalArgumentException("this handle is of another kind");
        }
    }

    private void demandLayer(int layer) {
        if (layer < 0 || layer >= layers) {
            throw new IndexOutOfBoundsException("there is no such layer");
        }
    }

    /** The thing of a handle that was given. */
    private Thing demandThing(int handle) {
        int kind = handle / UNIT;
        if (kind < PART || kind > PLANE) {
            throw new IllegalArgumentException("this handle is not of a thing");
        }
        int slot = FIRST_SLOT[kind] + handle % UNIT;
        Thing thing = slot < SLOTS ? things[slot] : null;
        if (thing == null) {
            throw new IndexOutOfBoundsException("this number was not given");
        }
        return thing;
    }

    private static void demandThere(Thing thing) {
        if (!thing.there) {
            throw new IllegalStateException("it was dropped");
        }
    }

    private Act demandOpenAct(int handle) {
        demandGiven(handle);
        demandKind(handle, ACT);
        Act act = acts[handle % UNIT];
        if (act == null || !act.open) {
            throw new IllegalStateException("this act is not open");
        }
        return act;
    }

    private void demandNoOpenAct() {
        for (Act act : acts) {
            if (act != null && act.open) {
                throw new IllegalStateException("an act is open");
            }
        }
    }

    private boolean isFull(int kind) {
        return given[kind] >= LIMITS[kind];
    }

    private int nextHandle(int kind) {
        int handle = UNIT * kind + given[kind];
        given[kind]++;
        return handle;
    }

    private int make(Thing thing, Area bounds) {
        reason = whyNotMade(thing, bounds);
        if (reason != FINE) {
            return NONE;
        }
        things[thing.slot()] = thing;
        noteChange(thing);
        thing.there = true;
        return nextHandle(thing.kind);
    }

    private int whyNotMade(Thing thing, Area bounds) {
        if (isFull(thing.kind)) {
            return FULL;
        }
        if (!bounds.holds(thing.area)) {
            return OUTSIDE;
        }
        if (isBarred(thing.area)) {
            return BARRED;
        }
        if (overlapsAnother(thing, thing.area)) {
            return OVERLAP;
        }
        return copper.clashesMoved(thing, thing, 0, 0) ? CLASH : FINE;
    }

    private int whyNotMoved(Thing lead, Area target) {
        if (!board.holds(target)) {
            return OUTSIDE;
        }
        if (isBarred(lead.area) || isBarred(target)) {
            return BARRED;
        }
        if (overlapsAnother(lead, target)) {
            return OVERLAP;
        }
        int dx = target.lowX - lead.area.lowX;
        int dy = target.lowY - lead.area.lowY;
        return copper.anyPadClashesMoved(lead, dx, dy) ? CLASH : FINE;
    }

    private int whyNotBegun(Area region) {
        if (isFull(ACT)) {
            return FULL;
        }
        if (!board.holds(region)) {
            return OUTSIDE;
        }
        return meetsOpenAct(region, null) ? BARRED : FINE;
    }

    private boolean isBarred(Area area) {
        return (working != null && !working.region.holds(area)) || meetsOpenAct(area, working);
    }

    private boolean meetsOpenAct(Area area, Act except) {
        for (Act act : acts) {
            if (act != null && act.open && act != except && act.region.meets(area)) {
                return true;
            }
        }
        return false;
    }

    private boolean overlapsAnother(Thing thing, Area place) {
        for (Thing other : things) {
            if (other != null && other.there && other != thing
                    && other.excludes(thing) && other.area.meets(place)) {
                return true;
            }
        }
        return false;
    }

    private void shiftAll(Thing lead, int dx, int dy) {
        for (Thing thing : things) {
            if (thing != null && thing.there && thing.goesWith(lead)) {
                noteChange(thing);
                thing.area.shift(dx, dy);
            }
        }
    }

    private void removeAll(Thing lead) {
        for (Thing thing : things) {
            if (thing != null && thing.there && thing.goesWith(lead)) {
                noteChange(thing);
                thing.there = false;
            }
        }
    }

    /** To be told before the thing is changed, so that the act can bring back what it was. */
    private void noteChange(Thing thing) {
        if (working != null) {
            working.changes++;
            working.before.noteFirst(thing);
        }
    }

    /** A rectangle of cells, both ends belonging to it. */
    private static final class Area {
        private int lowX;
        private int lowY;
        private int highX;
        private int highY;

        Area(int lowX, int lowY, int highX, int highY) {
            this.lowX = lowX;
            this.lowY = lowY;
            this.highX = highX;
            this.highY = highY;
        }

        Area startingAt(int x, int y) {
            return new Area(x, y, x + (highX - lowX), y + (highY - lowY));
        }

        /** A turned area is held by none; so is one whose far end went beyond the ints. */
        boolean holds(Area a) {
            return lowX <= a.lowX && a.lowX <= a.highX && a.highX <= highX
                    && lowY <= a.lowY && a.lowY <= a.highY && a.highY <= highY;
        }

        boolean meets(Area a) {
            return lowX <= a.highX && a.lowX <= highX && lowY <= a.highY && a.lowY <= highY;
        }

        /** Whether this area, moved by so much, has a cell near one of the other area. */
        boolean comesNearMoved(Area a, int reach, int dx, int dy) {
            return lowX + dx <= a.highX + reach && a.lowX <= highX + dx + reach
                    && lowY + dy <= a.highY + reach && a.lowY <= highY + dy + reach;
        }

        void shift(int dx, int dy) {
            lowX += dx;
            highX += dx;
            lowY += dy;
            highY += dy;
        }
    }

    /** A part, a point (pad or via), a track or a plane; the side of a part is its layer. */
    private static final class Thing {
        private final int kind;
        private final int number;
        private final Area area;
        private final int layer;
        private final int netHandle;
        private final int partHandle;
        private boolean there = false;

        Thing(int kind, int number, Area area, int layer, int netHandle, int partHandle) {
            this.kind = kind;
            this.number = number;
            this.area = area;
            this.layer = layer;
            this.netHandle = netHandle;
            this.partHandle = partHandle;
        }

        int handle() {
            return UNIT * kind + number;
        }

        int slot() {
            return FIRST_SLOT[kind] + number;
        }

        boolean hasCopper() {
            return kind == POINT || kind == TRACK;
        }

        boolean liesOn(int aLayer) {
            return kind == POINT || layer == aLayer;
        }

        boolean goesWith(Thing lead) {
            return this == lead || partHandle == lead.handle();
        }

        /** Whether the two may have no cell in common, whatever their nets. */
        boolean excludes(Thing other) {
            return kind == other.kind && layer == other.layer && (kind == PART || kind == PLANE);
        }

        boolean clashesMoved(Thing other, int reach, int dx, int dy) {
            return hasCopper() && other.hasCopper() && netHandle != other.netHandle
                    && (liesOn(other.layer) || other.liesOn(layer))
                    && area.comesNearMoved(other.area, reach, dx, dy);
        }

        /** All that can change of a thing, in one number. */
        int state() {
            return (area.lowY << 6) | (area.lowX << 1) | (there ? 1 : 0);
        }

        void restore(int state) {
            there = (state & 1) != 0;
            area.shift(((state >> 1) & 31) - area.lowX, (state >> 6) - area.lowY);
        }
    }

    /** What things were at a moment, or before an act changed them. */
    private static final class Snapshot {
        private static final int UNKNOWN = -1;
        private final int[] states = new int[SLOTS];

        Snapshot() {
            Arrays.fill(states, UNKNOWN);
        }

        void noteFirst(Thing thing) {
            int slot = thing.slot();
            if (states[slot] == UNKNOWN) {
                states[slot] = thing.state();
            }
        }

        void noteAll(Thing[] things) {
            for (Thing thing : things) {
                if (thing != null) {
                    noteFirst(thing);
                }
            }
        }

        /** The first state noted of a thing is what undoing its changes, the latest first, ends at. */
        void restoreKnown(Thing[] things) {
            for (Thing thing : things) {
                if (thing != null && states[thing.slot()] != UNKNOWN) {
                    thing.restore(states[thing.slot()]);
                }
            }
        }

        /** How many things changed; those not known were made later. */
        int restoreAll(Thing[] things) {
            int changed = 0;
            for (Thing thing : things) {
                if (thing != null && restoreOne(thing)) {
                    changed++;
                }
            }
            return changed;
        }

        private boolean restoreOne(Thing thing) {
            int now = thing.state();
            int known = states[thing.slot()];
            if (known == UNKNOWN) {
                thing.there = false;
            } else {
                thing.restore(known);
            }
            return thing.state() != now;
        }
    }

    /** A region that is held while the act is open, and what it changed. */
    private static final class Act {
        private final Area region;
        private final Snapshot before = new Snapshot();
        private boolean open = true;
        private int changes = 0;

        Act(Area region) {
            this.region = region;
        }
    }

    /** A set of cells of one layer: a number for each row, a bit for each of its 32 cells. */
    private static final class Sheet {
        private final int[] rows = new int[ROWS];

        void clear() {
            Arrays.fill(rows, 0);
        }

        void addAll() {
            Arrays.fill(rows, -1);
        }

        void add(Area area) {
            int bits = bits(area.lowX, area.highX);
            for (int y = Math.max(0, area.lowY); y <= area.highY && y < ROWS; y++) {
                rows[y] |= bits;
            }
        }

        void removeWithin(Area area, int reach) {
            int bits = bits(area.lowX - reach, area.highX + reach);
            for (int y = Math.max(0, area.lowY - reach); y <= area.highY + reach && y < ROWS; y++) {
                rows[y] &= ~bits;
            }
        }

        boolean hasFirstOf(Area area) {
            int y = area.lowY;
            return y >= 0 && y < ROWS && (rows[y] & bits(area.lowX, area.lowX)) != 0;
        }

        void keepOnly(Sheet room) {
            for (int y = 0; y < ROWS; y++) {
                rows[y] &= room.rows[y];
            }
        }

        int size() {
            int cells = 0;
            for (int row : rows) {
                cells += Integer.bitCount(row);
            }
            return cells;
        }

        /** Adds all cells of the room that steps inside it lead to. */
        boolean growThrough(Sheet room) {
            boolean grewEver = false;
            boolean grew = true;
            for (int round = 0; grew && round <= ALL_CELLS; round++) {
                grew = false;
                for (int y = 0; y < ROWS; y++) {
                    grew = growRow(y, room) || grew;
                }
                for (int y = ROWS - 1; y >= 0; y--) {
                    grew = growRow(y, room) || grew;
                }
                grewEver = grewEver || grew;
            }
            return grewEver;
        }

        private boolean growRow(int y, Sheet room) {
            int old = rows[y];
            int seeds = old;
            if (y > 0) {
                seeds |= rows[y - 1];
            }
            if (y < ROWS - 1) {
                seeds |= rows[y + 1];
            }
            rows[y] = old | runsFrom(seeds & room.rows[y], room.rows[y]);
            return rows[y] != old;
        }

        /** Doubling steps, so that five of them go through a whole row. */
        private static int runsFrom(int seeds, int room) {
            int up = seeds;
            int down = seeds;
            int roomUp = room;
            int roomDown = room;
            for (int step = 1; step < COLUMNS; step *= 2) {
                up |= roomUp & (up << step);
                down |= roomDown & (down >>> step);
                roomUp &= roomUp << step;
                roomDown &= roomDown >>> step;
            }
            return up | down;
        }

        private static int bits(int lowX, int highX) {
            int from = Math.max(0, lowX);
            int to = Math.min(COLUMNS - 1, highX);
            return from > to ? 0 : (-1 >>> (COLUMNS - 1 - (to - from))) << from;
        }
    }

    /** What the copper of the things that are there does: clash, fill, and join. */
    private static final class Copper {
        private final Thing[] things = new Thing[SLOTS];
        private final int layers;
        private final Sheet room = new Sheet();
        private final Sheet[] ofNet;
        private final Sheet[] reached;
        private int reach;

        Copper(int layers, int reach) {
            this.layers = layers;
            this.reach = reach;
            this.ofNet = newSheets(layers);
            this.reached = newSheets(layers);
        }

        private static Sheet[] newSheets(int layers) {
            Sheet[] sheets = new Sheet[layers];
            for (int layer = 0; layer < layers; layer++) {
                sheets[layer] = new Sheet();
            }
            return sheets;
        }

        private Thing thereAt(int slot) {
            Thing thing = things[slot];
            return thing != null && thing.there ? thing : null;
        }

        int handleAt(int slot) {
            Thing thing = thereAt(slot);
            return thing == null ? NONE : thing.handle();
        }

        /** Whether a thing, moved by so much, clashes with one that does not go with the lead. */
        boolean clashesMoved(Thing thing, Thing lead, int dx, int dy) {
            for (int slot = COPPER_FROM; slot < COPPER_END; slot++) {
                Thing other = thereAt(slot);
                if (other != null && !other.goesWith(lead) && thing.clashesMoved(other, reach, dx, dy)) {
                    return true;
                }
            }
            return false;
        }

        boolean anyPadClashesMoved(Thing lead, int dx, int dy) {
            for (int slot = COPPER_FROM; slot < COPPER_END; slot++) {
                Thing thing = thereAt(slot);
                if (thing != null && thing.goesWith(lead) && clashesMoved(thing, lead, dx, dy)) {
                    return true;
                }
            }
            return false;
        }

        private boolean isPair(Thing first, int slot) {
            Thing other = thereAt(slot);
            return other != null && first.clashesMoved(other, reach, 0, 0);
        }

        /** How many things of later slots clash with that of a slot. */
        int countPartners(int slot) {
            Thing first = thereAt(slot);
            int partners = 0;
            for (int other = slot + 1; first != null && other < COPPER_END; other++) {
                if (isPair(first, other)) {
                    partners++;
                }
            }
            return partners;
        }

        int partnerOf(int slot, int k) {
            Thing first = thereAt(slot);
            int left = k;
            for (int other = slot + 1; first != null && other < COPPER_END; other++) {
                if (isPair(first, other)) {
                    if (left == 0) {
                        return handleAt(other);
                    }
                    left--;
                }
            }
            return NONE;
        }

        int countFilled(Thing plane) {
            Sheet sheet = reached[0];
            fill(sheet, plane);
            return sheet.size();
        }

        private void fill(Sheet sheet, Thing plane) {
            room.addAll();
            sheet.clear();
            for (int slot = COPPER_FROM; slot < COPPER_END; slot++) {
                Thing thing = thereAt(slot);
                if (thing != null && thing.liesOn(plane.layer)) {
                    if (thing.netHandle == plane.netHandle) {
                        sheet.add(thing.area);
                    } else {
                        room.removeWithin(thing.area, reach);
                    }
                }
            }
            sheet.keepOnly(room);
            sheet.growThrough(room);
        }

        int countIslands(int netHandle) {
            layOut(netHandle);
            int islands = 0;
            for (int slot = COPPER_FROM; slot < COPPER_END; slot++) {
                Thing point = pointAt(slot, netHandle);
                if (point != null && !isReached(point)) {
                    islands++;
                    reachFrom(point);
                }
            }
            return islands;
        }

        /** Lays the copper of a net and what its planes fill on the sheets of the layers. */
        private void layOut(int netHandle) {
            for (int layer = 0; layer < layers; layer++) {
                ofNet[layer].clear();
                reached[layer].clear();
            }
            for (int slot = COPPER_END; slot < SLOTS; slot++) {
                Thing plane = thereAt(slot);
                if (plane != null && plane.netHandle == netHandle) {
                    fill(ofNet[plane.layer], plane);
                }
            }
            for (int slot = COPPER_FROM; slot < COPPER_END; slot++) {
                Thing thing = thereAt(slot);
                if (thing != null && thing.netHandle == netHandle) {
                    layOn(ofNet, thing);
                }
            }
        }

        private void layOn(Sheet[] sheets, Thing thing) {
            for (int layer = 0; layer < layers; layer++) {
                if (thing.liesOn(layer)) {
                    sheets[layer].add(thing.area);
                }
            }
        }

        private Thing pointAt(int slot, int netHandle) {
            Thing thing = thereAt(slot);
            boolean fits = thing != null && thing.kind == POINT && thing.netHandle == netHandle;
            return fits ? thing : null;
        }

        private boolean isReached(Thing point) {
            for (int layer = 0; layer < layers; layer++) {
                if (reached[layer].hasFirstOf(point.area)) {
                    return true;
                }
            }
            return false;
        }

        private void reachFrom(Thing point) {
            layOn(reached, point);
            boolean grew = true;
            for (int round = 0; grew && round <= ALL_CELLS; round++) {
                grew = false;
                for (int layer = 0; layer < layers; layer++) {
                    grew = reached[layer].growThrough(ofNet[layer]) || grew;
                }
                // Only growth on one layer can give the points anything to carry to the others.
                if (grew) {
                    joinLayers(point.netHandle);
                }
            }
        }

        private void joinLayers(int netHandle) {
            for (int slot = COPPER_FROM; slot < COPPER_END; slot++) {
                Thing point = pointAt(slot, netHandle);
                if (point != null && isReached(point)) {
                    layOn(reached, point);
                }
            }
        }
    }
}
