import java.util.Arrays;

/**
 * Gliders in a sea of streams: they dive by orders that each runs alone, measure salt, lessen
 * doubt and teach a map, while an office hears, plans, fetches and remembers.
 */
public final class DeepWings {
    private static final int NO_SUCH = -1;
    private static final int NO_ROOM = -2;
    private static final int CANNOT = -3;
    private static final int NONE = -4;
    private static final int LOST_ON_DIVE = -5;
    private static final int FAULT_AT_0 = -100;
    private static final int NOTHING_HELD = -11;
    private static final int OTHER_KIND = -12;
    private static final int NO_PLACE = -13;
    private static final int BELOW_0 = -14;
    private static final int NO_FAILURE = -15;

    private static final int WIDTH = 10;
    private static final int HEIGHT = 8;
    private static final int CELLS = WIDTH * HEIGHT;
    private static final int LAYERS = 4;
    private static final int PLACES = CELLS * LAYERS;
    private static final int MOST_STREAM = 2;
    private static final int MOST_SALT = 999;
    private static final int NET_SET = 1000;
    private static final int NET_GONE = 1001;
    private static final int MOST_DOUBT = 99;
    private static final int FIRST_DOUBT = 50;

    /** The CELL itself, then its four sides. */
    private static final int[] SIDE_EAST = {0, 1, -1, 0, 0};
    private static final int[] SIDE_NORTH = {0, 0, 0, 1, -1};
    private static final int SIDES = 5;

    private static final int DEPTH = 0;
    private static final int DOUBT = 2;

    private static final int PLAIN = 0;
    private static final int LIGHT = 1;
    private static final int DEEP = 2;
    private static final int SCOUT = 3;
    private static final int[] SINKS = {2, 1, 3, 1};
    private static final int[] GOES = {2, 3, 1, 4};
    private static final int LEAK_COST = 3;
    private static final int LANE_COST = 5;
    private static final int FOUL_SHOWS = 3;
    private static final int MOST_POWER = 999;

    private static final int UP = 0;
    private static final int FETCHED = 1;
    private static final int LOST = 2;

    private static final int MOST_GLIDERS = 8;
    private static final int MOST_TIME = 400;
    private static final int MOST_TIMES = 40;
    private static final int MOST_READINGS = 200;
    private static final int MOST_CLEANINGS = 60;
    private static final int MOST_TOO_MUCH = 2000;
    private static final int MOST_LETTERS = 60;
    private static final int MOST_ORDERS = 10;
    private static final int FETCH_STEPS = 3;

    private static final int MOST_RULES = 6;
    /** A CHECK takes three bytes and one behind it, so a ROW of 80 holds no more. */
    private static final int MOST_CHECKS = 20;
    private static final String FIELDS = "pxylfhtsd";
    private static final String SIGNS = "<>=";
    private static final int STAY = 0;
    private static final int SINK = 1;
    private static final int GO = 2;

    private static final int SHELVES = 8;
    private static final int HOLDS_NOTHING = 0;
    private static final int HOLDS_GLIDER = 1;
    private static final int HOLDS_ROW = 2;
    private static final int BYTES = 0;
    private static final int SHORTS = 1;
    private static final int INTS = 2;
    private static final int MOST_ELEMENTS = 80;

    private static final int PLANNED_GLIDERS = 3;
    /** All HEADINGS of a GLIDER that GOES 4. */
    private static final int MOST_HEADINGS = 41;

    private final World now = new World();
    private final Planner planner = new Planner(now);
    private final OrderReader reader = new OrderReader();
    private final Shelf[] shelves = new Shelf[SHELVES];
    private World kept = null;

    public DeepWings() {
        for (int d = 0; d < SHELVES; d++) {
            shelves[d] = new Shelf();
        }
    }

    // ---- the sea

    public int sea(int xs, int ys, int what, int v) {
        if (!isSpan(xs, WIDTH) || !isSpan(ys, HEIGHT) || !isSeaValue(what, v)) {
            return NO_SUCH;
        }
        if (what == DEPTH && v == 0 && now.isAnyUpWithin(xs, ys)) {
            return CANNOT;
        }
        return now.sea.change(xs, ys, what, v);
    }

    public int stream(int x, int y, int layer, int east, int north, boolean map) {
        if (!isCell(x, y) || !isLayer(layer) || !isStream(east) || !isStream(north)) {
            return NO_SUCH;
        }
        Streams streams = map ? now.sea.map : now.sea.waters;
        int place = placeOf(cellOf(x, y), layer);
        streams.east[place] = east;
        streams.north[place] = north;
        return 0;
    }

    public int salt(int x, int y, int layer, int v) {
        if (!isCell(x, y) || !isLayer(layer) || v < 0 || v > NET_GONE) {
            return NO_SUCH;
        }
        int place = placeOf(cellOf(x, y), layer);
        if (v <= MOST_SALT) {
            return changeAt(now.sea.salts, place, v);
        }
        return changeAt(now.sea.nets, place, v == NET_SET ? 1 : 0);
    }

    public int cell(int x, int y, int layer, int what) {
        if (!isCell(x, y) || what < 0 || what > 8) {
            return NO_SUCH;
        }
        int cell = cellOf(x, y);
        if (what <= DOUBT) {
            return now.sea.cellRow(what)[cell];
        }
        if (!isLayer(layer)) {
            return NO_SUCH;
        }
        return now.sea.placeRow(what)[placeOf(cell, layer)];
    }

    // ---- gliders

    public int glider(int kind, int x, int y, int power) {
        if (kind < PLAIN || kind > SCOUT || !isCell(x, y) || power < 0 || power > MOST_POWER) {
            return NO_SUCH;
        }
        if (now.gliders >= MOST_GLIDERS) {
            return NO_ROOM;
        }
        if (now.sea.depth[cellOf(x, y)] == 0) {
            return CANNOT;
        }
        return now.addGlider(kind, cellOf(x, y), power);
    }

    public int about(int glider, int what) {
        Glider g = now.gliderAt(glider);
        if (g == null) {
            return NO_SUCH;
        }
        return tellAbout(g, what);
    }

    public int can(int glider, int what) {
        Glider g = now.gliderAt(glider);
        if (g == null || what < 0 || what > LAYERS + 1) {
            return NO_SUCH;
        }
        if (what == 0) {
            return g.deepest();
        }
        if (what == 1) {
            return g.reach();
        }
        return what - 2 > g.deepest() ? CANNOT : g.costTo(what - 2);
    }

    public int leak(int glider, boolean is) {
        Glider g = now.gliderAt(glider);
        if (g == null) {
            return NO_SUCH;
        }
        boolean was = g.leaks;
        g.leaks = is;
        return was == is ? 0 : 1;
    }

    public int dive(int glider, int layer, int east, int north) {
        Glider g = now.gliderAt(glider);
        if (g == null || !g.mayDive(layer, east, north)) {
            return NO_SUCH;
        }
        if (g.state != UP || g.power < g.costTo(layer)) {
            return CANNOT;
        }
        return now.descend(g, layer, east, north);
    }

    // ---- orders, letters, time

    public int fault(int d) {
        Shelf shelf = shelfAt(d);
        if (shelf == null) {
            return NO_SUCH;
        }
        int refusal = shelf.refusesAsText();
        return refusal != 0 ? refusal : reader.scan(shelf.elements, shelf.size);
    }

    public int order(int d) {
        Shelf shelf = shelfAt(d);
        if (shelf == null) {
            return NO_SUCH;
        }
        if (now.orderCount >= MOST_ORDERS) {
            return NO_ROOM;
        }
        int refusal = shelf.refusesAsText();
        if (refusal != 0) {
            return refusal;
        }
        int place = reader.scan(shelf.elements, shelf.size);
        if (place != NONE) {
            return FAULT_AT_0 - place;
        }
        now.orders[now.orderCount] = reader.handOver();
        return now.orderCount++;
    }

    public int letter(int glider, int order) {
        if (now.gliderAt(glider) == null || order < 0 || order >= now.orderCount) {
            return NO_SUCH;
        }
        if (now.mail.letters >= MOST_LETTERS) {
            return NO_ROOM;
        }
        return now.mail.send(glider, order, now.time);
    }

    public int waiting(int glider) {
        if (now.gliderAt(glider) == null) {
            return NO_SUCH;
        }
        return now.mail.unheardBy(glider);
    }

    public int deaf(int time, boolean is) {
        if (time < 0 || time > MOST_TIME) {
            return NO_SUCH;
        }
        return changeAt(now.deafness, time, is ? 1 : 0);
    }

    public int rule(int glider) {
        Glider g = now.gliderAt(glider);
        if (g == null) {
            return NO_SUCH;
        }
        Order order = now.orderOf(g);
        if (g.state != UP || order == null) {
            return CANNOT;
        }
        return now.ruleFor(g, order);
    }

    public int times(int n) {
        if (n < 1 || n > MOST_TIMES) {
            return NO_SUCH;
        }
        if (now.time + n > MOST_TIME) {
            return NO_ROOM;
        }
        int dives = 0;
        for (int i = 0; i < n; i++) {
            now.hearAll();
            dives += now.obeyAll();
            now.sea.growDoubt();
            now.time++;
        }
        return dives;
    }

    public int known(int glider, int time) {
        Glider g = now.gliderAt(glider);
        if (g == null || time < 0 || time > MOST_TIME) {
            return NO_SUCH;
        }
        return g.fixBy(time);
    }

    // ---- measuring

    public int clean(int glider, int tooMuch) {
        Glider g = now.gliderAt(glider);
        if (g == null || tooMuch < -MOST_TOO_MUCH || tooMuch > MOST_TOO_MUCH) {
            return NO_SUCH;
        }
        if (now.probes.cleanings >= MOST_CLEANINGS) {
            return NO_ROOM;
        }
        int cleanings = now.probes.addCleaning(glider, tooMuch, g.foul);
        g.foul = 0;
        return cleanings;
    }

    public int reading(int reading, int what) {
        Probes probes = now.probes;
        if (reading < 0 || reading >= probes.readings) {
            return NO_SUCH;
        }
        switch (what) {
            case 0: return probes.readBy[reading];
            case 1: return probes.readTime[reading];
            case 2: return probes.readCell[reading];
            case 3: return probes.readLayer[reading];
            case 4: return probes.readFoul[reading];
            default: return NO_SUCH;
        }
    }

    public long read(int reading, boolean right) throws IllegalArgumentException {
        if (reading < 0 || reading >= now.probes.readings) {
            throw new IllegalArgumentException("no such READING");
        }
        return right ? now.probes.putRight(reading) : now.probes.shown[reading];
    }

    public int plan(int layer) {
        if (!isLayer(layer)) {
            return NO_SUCH;
        }
        return planner.work(layer);
    }

    public int planned(int layer, int glider) {
        if (!isLayer(layer) || now.gliderAt(glider) == null) {
            return NO_SUCH;
        }
        planner.work(layer);
        return planner.headingOf(glider);
    }

    public int ends(int glider, int layer, int east, int north) {
        Glider g = now.gliderAt(glider);
        if (g == null || !g.mayDive(layer, east, north)) {
            return NO_SUCH;
        }
        if (g.state != UP) {
            return CANNOT;
        }
        now.path.sink(now.sea, now.sea.map, g.cell, layer, false);
        return now.sea.walked(now.path.cell, east, north);
    }

    public int whole(int layer) {
        if (!isLayer(layer)) {
            return NO_SUCH;
        }
        int wholes = 0;
        for (int cell = 0; cell < CELLS; cell++) {
            if (now.sea.has(cell, layer) && now.sea.isWhole(cell, layer)) {
                wholes++;
            }
        }
        return wholes;
    }

    // ---- the ship

    public int ship(int x, int y) {
        if (!isCell(x, y)) {
            return NO_SUCH;
        }
        if (now.sea.depth[cellOf(x, y)] == 0) {
            return CANNOT;
        }
        int was = now.shipCell;
        now.shipCell = cellOf(x, y);
        return was;
    }

    public int left(int glider) {
        Glider g = now.gliderAt(glider);
        if (g == null) {
            return NO_SUCH;
        }
        return g.state != UP ? CANNOT : g.divesLeft();
    }

    public int next() {
        int best = NONE;
        int bestLeft = 0;
        int bestSteps = 0;
        for (int i = 0; i < now.gliders; i++) {
            Glider g = now.fleet[i];
            if (g.state != UP) {
                continue;
            }
            int dives = g.divesLeft();
            int steps = stepsBetween(g.cell, now.shipCell);
            if (best == NONE || dives < bestLeft || (dives == bestLeft && steps < bestSteps)) {
                best = i;
                bestLeft = dives;
                bestSteps = steps;
            }
        }
        return best;
    }

    public int fetch(int glider) {
        Glider g = now.gliderAt(glider);
        if (g == null) {
            return NO_SUCH;
        }
        int steps = stepsBetween(g.cell, now.shipCell);
        if (g.state != UP || steps > FETCH_STEPS) {
            return CANNOT;
        }
        g.state = FETCHED;
        return steps;
    }

    // ---- the image, what is told

    public int image() {
        if (kept == null) {
            kept = new World();
        }
        kept.become(now);
        return now.time;
    }

    public int restore() {
        if (kept == null) {
            return CANNOT;
        }
        now.become(kept);
        return now.time;
    }

    public int count(int what) {
        switch (what) {
            case 0: return now.gliders;
            case 1: return now.howMany(UP);
            case 2: return now.howMany(FETCHED);
            case 3: return now.howMany(LOST);
            case 4: return now.time;
            case 5: return now.probes.readings;
            case 6: return now.mail.letters;
            case 7: return now.orderCount;
            case 8: return now.sea.allDoubt();
            case 9: return now.probes.cleanings;
            case 10: return now.allPower();
            default: return NO_SUCH;
        }
    }

    // ---- shelves

    public int keep(int d, int what, int k) {
        Shelf shelf = shelfAt(d);
        if (shelf == null || what < HOLDS_NOTHING || what > HOLDS_GLIDER) {
            return NO_SUCH;
        }
        if (what == HOLDS_NOTHING) {
            shelf.holds = HOLDS_NOTHING;
            return 0;
        }
        Glider g = now.gliderAt(k);
        if (g == null) {
            return NO_SUCH;
        }
        shelf.holdGlider(g);
        return 0;
    }

    public int row(int d, int sort, int n) {
        Shelf shelf = shelfAt(d);
        if (shelf == null || sort < BYTES || sort > INTS || n > MOST_ELEMENTS) {
            return NO_SUCH;
        }
        if (n < 0) {
            return BELOW_0;
        }
        shelf.holdRow(sort, n);
        return 0;
    }

    public int put(int d, int i, int v) {
        Shelf shelf = shelfAt(d);
        if (shelf == null) {
            return NO_SUCH;
        }
        if (shelf.holds != HOLDS_ROW) {
            return shelf.holds == HOLDS_NOTHING ? NOTHING_HELD : OTHER_KIND;
        }
        if (i < 0 || i >= shelf.size) {
            return NO_PLACE;
        }
        shelf.elements[i] = lowestBits(shelf.sort, v);
        return 0;
    }

    public long element(int d, int i) throws IllegalArgumentException, IllegalStateException {
        Shelf shelf = shelfAt(d);
        if (shelf == null) {
            throw new IllegalArgumentException("no such SHELF");
        }
        if (shelf.holds != HOLDS_ROW || i < 0 || i >= shelf.size) {
            throw new IllegalStateException("no ROW, or no such place");
        }
        return shelf.elements[i];
    }

    public int copy(int d, int i, int e, int j, int n) {
        Shelf from = shelfAt(d);
        Shelf to = shelfAt(e);
        if (from == null || to == null) {
            return NO_SUCH;
        }
        if (from.holds == HOLDS_NOTHING || to.holds == HOLDS_NOTHING) {
            return NOTHING_HELD;
        }
        if (from.holds != HOLDS_ROW || to.holds != HOLDS_ROW || from.sort != to.sort) {
            return OTHER_KIND;
        }
        if (!isStretch(i, n, from.size) || !isStretch(j, n, to.size)) {
            return NO_PLACE;
        }
        System.arraycopy(from.elements, i, to.elements, j, n);
        return n;
    }

    public int sum(int d) {
        Shelf shelf = shelfAt(d);
        if (shelf == null) {
            return NO_SUCH;
        }
        if (shelf.holds != HOLDS_GLIDER) {
            return shelf.holds == HOLDS_NOTHING ? NOTHING_HELD : OTHER_KIND;
        }
        int all = 100 + 10 * SINKS[shelf.kind] + GOES[shelf.kind];
        switch (shelf.kind) {
            case LIGHT: return all + costOf(LIGHT, 0);
            case DEEP: return all + shelf.power;
            case SCOUT: return 2 * (all + costOf(SCOUT, 0));
            default: return all;
        }
    }

    public int toss(int d) {
        Shelf shelf = shelfAt(d);
        if (shelf == null) {
            return NO_SUCH;
        }
        if (shelf.holds != HOLDS_GLIDER) {
            return shelf.holds == HOLDS_NOTHING ? NOTHING_HELD : OTHER_KIND;
        }
        try {
            throwFailure(shelf);
            return NO_FAILURE;
        } catch (UnsupportedOperationException scoutFailed) {
            return 100 + shelf.cell;
        } catch (IllegalStateException gliderFailed) {
            return shelf.cell;
        }
    }

    // ---- what the calls share

    private static void throwFailure(Shelf shelf) {
        if (shelf.state != UP || shelf.kind == PLAIN) {
            return;
        }
        if (shelf.kind == SCOUT) {
            throw new UnsupportedOperationException("a SCOUT failed");
        }
        throw new IllegalStateException("a GLIDER failed");
    }

    private Shelf shelfAt(int d) {
        return d >= 0 && d < SHELVES ? shelves[d] : null;
    }

    private static int tellAbout(Glider g, int what) {
        switch (what) {
            case 0: return g.kind;
            case 1: return xOf(g.cell);
            case 2: return yOf(g.cell);
            case 3: return g.power;
            case 4: return g.state;
            case 5: return g.leaks ? 1 : 0;
            case 6: return g.foul;
            case 7: return g.order;
            case 8: return g.heard;
            case 9: return g.dives;
            case 10: return g.measured ? g.latest : NONE;
            default: return NO_SUCH;
        }
    }

    private static boolean isCell(int x, int y) {
        return x >= 0 && x < WIDTH && y >= 0 && y < HEIGHT;
    }

    private static boolean isLayer(int layer) {
        return layer >= 0 && layer < LAYERS;
    }

    private static boolean isStream(int v) {
        return v >= -MOST_STREAM && v <= MOST_STREAM;
    }

    private static boolean isSpan(int span, int size) {
        return span >= 0 && span < 100 && span / 10 <= span % 10 && span % 10 < size;
    }

    private static boolean isSeaValue(int what, int v) {
        switch (what) {
            case 0: return v >= 0 && v <= LAYERS;
            case 1: return v == 0 || v == 1;
            case 2: return v >= 0 && v <= MOST_DOUBT;
            default: return false;
        }
    }

    /** Whether n elements from i on are there; i may stand right behind the last if n is 0. */
    private static boolean isStretch(int i, int n, int size) {
        return i >= 0 && n >= 0 && i <= size && n <= size - i;
    }

    private static int cellOf(int x, int y) {
        return HEIGHT * x + y;
    }

    private static int xOf(int cell) {
        return cell / HEIGHT;
    }

    private static int yOf(int cell) {
        return cell % HEIGHT;
    }

    private static int placeOf(int cell, int layer) {
        return LAYERS * cell + layer;
    }

    private static int changeAt(int[] values, int i, int v) {
        int was = values[i];
        values[i] = v;
        return was == v ? 0 : 1;
    }

    private static int stepsBetween(int cell, int other) {
        return Math.abs(xOf(cell) - xOf(other)) + Math.abs(yOf(cell) - yOf(other));
    }

    /** COST of a DIVE without a LEAK. */
    private static int costOf(int kind, int layer) {
        int plain = 4 + 2 * layer;
        switch (kind) {
            case LIGHT: return plain / 2;
            case DEEP: return plain - 1;
            case SCOUT: return plain / 2 + 1;
            default: return plain;
        }
    }

    private static int lowestBits(int sort, int v) {
        if (sort == BYTES) {
            return (byte) v;
        }
        return sort == SHORTS ? (short) v : v;
    }

    private static void copyAll(int[] from, int[] to) {
        System.arraycopy(from, 0, to, 0, Math.min(from.length, to.length));
    }

    /** East and north of each CELL and LAYER: as they are, or as THE MAP tells them. */
    private static final class Streams {
        final int[] east = new int[PLACES];
        final int[] north = new int[PLACES];

        void become(Streams other) {
            copyAll(other.east, east);
            copyAll(other.north, north);
        }
    }

    private static final class Sea {
        final int[] depth = new int[CELLS];
        final int[] lanes = new int[CELLS];
        final int[] doubt = new int[CELLS];
        final int[] salts = new int[PLACES];
        final int[] nets = new int[PLACES];
        final Streams waters = new Streams();
        final Streams map = new Streams();

        Sea() {
            Arrays.fill(depth, LAYERS);
            Arrays.fill(doubt, FIRST_DOUBT);
        }

        void become(Sea other) {
            copyAll(other.depth, depth);
            copyAll(other.lanes, lanes);
            copyAll(other.doubt, doubt);
            copyAll(other.salts, salts);
            copyAll(other.nets, nets);
            waters.become(other.waters);
            map.become(other.map);
        }

        int[] cellRow(int what) {
            switch (what) {
                case 0: return depth;
                case 1: return lanes;
                default: return doubt;
            }
        }

        int[] placeRow(int what) {
            switch (what) {
                case 3: return waters.east;
                case 4: return waters.north;
                case 5: return map.east;
                case 6: return map.north;
                case 7: return salts;
                default: return nets;
            }
        }

        int change(int xs, int ys, int what, int v) {
            int[] values = cellRow(what);
            int changed = 0;
            for (int x = xs / 10; x <= xs % 10; x++) {
                for (int y = ys / 10; y <= ys % 10; y++) {
                    int cell = cellOf(x, y);
                    if (what == DOUBT && depth[cell] == 0) {
                        continue;
                    }
                    changed += changeAt(values, cell, v);
                    if (depth[cell] == 0) {
                        doubt[cell] = 0;
                    }
                }
            }
            return changed;
        }

        boolean has(int cell, int layer) {
            return depth[cell] > layer;
        }

        /** The CELL on that side, or -1 out of THE SEA. */
        int beside(int cell, int side) {
            int x = xOf(cell) + SIDE_EAST[side];
            int y = yOf(cell) + SIDE_NORTH[side];
            return isCell(x, y) ? cellOf(x, y) : -1;
        }

        private int stepped(int cell, int east, int north) {
            int x = xOf(cell) + east;
            int y = yOf(cell) + north;
            return isCell(x, y) && depth[cellOf(x, y)] > 0 ? cellOf(x, y) : cell;
        }

        int walked(int cell, int east, int north) {
            int at = cell;
            for (int i = 0; i < Math.abs(east); i++) {
                at = stepped(at, east < 0 ? -1 : 1, 0);
            }
            for (int i = 0; i < Math.abs(north); i++) {
                at = stepped(at, 0, north < 0 ? -1 : 1);
            }
            return at;
        }

        void lessenDoubt(int cell) {
            doubt[cell] = 0;
            for (int side = 1; side < SIDES; side++) {
                int other = beside(cell, side);
                if (other >= 0) {
                    doubt[other] /= 2;
                }
            }
        }

        void growDoubt() {
            for (int cell = 0; cell < CELLS; cell++) {
                if (depth[cell] > 0 && doubt[cell] < MOST_DOUBT) {
                    doubt[cell]++;
                }
            }
        }

        int allDoubt() {
            int all = 0;
            for (int cell = 0; cell < CELLS; cell++) {
                all += doubt[cell];
            }
            return all;
        }

        /** THE MAP moves by one towards what drifted, in the LAYERS of the CELL where it began. */
        void learn(int cell, int sank, int driftEast, int driftNorth) {
            int layers = Math.min(sank + 1, depth[cell]);
            int overEast = driftEast;
            int overNorth = driftNorth;
            for (int layer = 0; layer < layers; layer++) {
                overEast -= map.east[placeOf(cell, layer)];
                overNorth -= map.north[placeOf(cell, layer)];
            }
            for (int layer = 0; layer < layers; layer++) {
                int place = placeOf(cell, layer);
                map.east[place] = nudged(map.east[place], overEast);
                map.north[place] = nudged(map.north[place], overNorth);
            }
        }

        private static int nudged(int v, int over) {
            if (over > 0) {
                return Math.min(MOST_STREAM, v + 1);
            }
            return over < 0 ? Math.max(-MOST_STREAM, v - 1) : v;
        }

        boolean isWhole(int cell, int layer) {
            int place = placeOf(cell, layer);
            int out = Math.abs(map.east[place]) + Math.abs(map.north[place]);
            int in = 0;
            for (int side = 1; side < SIDES; side++) {
                int other = beside(cell, side);
                if (other >= 0 && has(other, layer)) {
                    int from = placeOf(other, layer);
                    int away = map.east[from] * SIDE_EAST[side] + map.north[from] * SIDE_NORTH[side];
                    in += Math.max(0, -away);
                }
            }
            return in == out;
        }
    }

    private static final class Glider {
        int kind;
        int cell;
        int power;
        int state;
        boolean leaks;
        int foul;
        int order;
        int heard;
        int dives;
        int latest;
        boolean measured;
        /** The CELL that the office heard at each TIME, or NONE. */
        final int[] fixes = new int[MOST_TIME];

        void begin(int newKind, int newCell, int newPower) {
            kind = newKind;
            cell = newCell;
            power = newPower;
            state = UP;
            leaks = false;
            foul = 0;
            order = NONE;
            heard = NONE;
            dives = 0;
            latest = 0;
            measured = false;
            Arrays.fill(fixes, NONE);
        }

        void become(Glider other) {
            kind = other.kind;
            cell = other.cell;
            power = other.power;
            state = other.state;
            leaks = other.leaks;
            foul = other.foul;
            order = other.order;
            heard = other.heard;
            dives = other.dives;
            latest = other.latest;
            measured = other.measured;
            copyAll(other.fixes, fixes);
        }

        int deepest() {
            return SINKS[kind];
        }

        int reach() {
            return GOES[kind];
        }

        int costTo(int layer) {
            return costOf(kind, layer) + (leaks ? LEAK_COST : 0);
        }

        boolean mayDive(int layer, int east, int north) {
            int most = reach();
            return layer >= 0 && layer <= deepest()
                && east >= -most && east <= most && north >= -most && north <= most
                && Math.abs(east) + Math.abs(north) <= most;
        }

        int divesLeft() {
            int cost = costTo(Math.min(1, deepest()));
            return cost > 0 ? power / cost : 0;
        }

        int fixBy(int time) {
            for (int t = Math.min(time, MOST_TIME - 1); t >= 0; t--) {
                if (fixes[t] != NONE) {
                    return fixes[t];
                }
            }
            return NONE;
        }
    }

    /** Where sinking takes a GLIDER; kept once, so that a DIVE makes no object. */
    private static final class Path {
        int cell;
        int sank;
        boolean lost;

        void sink(Sea sea, Streams streams, int from, int layer, boolean nets) {
            cell = from;
            sank = 0;
            lost = false;
            for (int l = 0; l <= layer && !lost && sea.has(cell, l); l++) {
                sank = l;
                int place = placeOf(cell, l);
                cell = sea.walked(cell, streams.east[place], streams.north[place]);
                lost = nets && sea.has(cell, l) && sea.nets[placeOf(cell, l)] == 1;
            }
        }
    }

    private static final class Mail {
        int letters = 0;
        final int[] to = new int[MOST_LETTERS];
        final int[] orders = new int[MOST_LETTERS];
        final int[] sentAt = new int[MOST_LETTERS];
        final int[] heard = new int[MOST_LETTERS];

        void become(Mail other) {
            letters = other.letters;
            copyAll(other.to, to);
            copyAll(other.orders, orders);
            copyAll(other.sentAt, sentAt);
            copyAll(other.heard, heard);
        }

        int send(int glider, int order, int time) {
            to[letters] = glider;
            orders[letters] = order;
            sentAt[letters] = time;
            heard[letters] = 0;
            letters++;
            return letters;
        }

        int unheardBy(int glider) {
            int unheard = 0;
            for (int i = 0; i < letters; i++) {
                if (to[i] == glider && heard[i] == 0) {
                    unheard++;
                }
            }
            return unheard;
        }

        /** The last ORDER that a GLIDER hears now, or the one that it had. */
        int hearBy(int glider, int time, int had) {
            int last = had;
            for (int i = 0; i < letters; i++) {
                if (to[i] == glider && heard[i] == 0 && sentAt[i] < time) {
                    heard[i] = 1;
                    last = orders[i];
                }
            }
            return last;
        }
    }

    private static final class Probes {
        int readings = 0;
        final int[] readBy = new int[MOST_READINGS];
        final int[] readTime = new int[MOST_READINGS];
        final int[] readCell = new int[MOST_READINGS];
        final int[] readLayer = new int[MOST_READINGS];
        final int[] readFoul = new int[MOST_READINGS];
        final int[] shown = new int[MOST_READINGS];
        int cleanings = 0;
        final int[] cleanOf = new int[MOST_CLEANINGS];
        final int[] tooMuches = new int[MOST_CLEANINGS];
        final int[] cleanFoul = new int[MOST_CLEANINGS];
        /** How many READINGS were kept ahead of the CLEANING: that tells which came first. */
        final int[] readingsAhead = new int[MOST_CLEANINGS];

        void become(Probes other) {
            readings = other.readings;
            copyAll(other.readBy, readBy);
            copyAll(other.readTime, readTime);
            copyAll(other.readCell, readCell);
            copyAll(other.readLayer, readLayer);
            copyAll(other.readFoul, readFoul);
            copyAll(other.shown, shown);
            cleanings = other.cleanings;
            copyAll(other.cleanOf, cleanOf);
            copyAll(other.tooMuches, tooMuches);
            copyAll(other.cleanFoul, cleanFoul);
            copyAll(other.readingsAhead, readingsAhead);
        }

        void addReading(int number, Glider g, int time, int layer) {
            if (readings >= MOST_READINGS) {
                return;
            }
            readBy[readings] = number;
            readTime[readings] = time;
            readCell[readings] = g.cell;
            readLayer[readings] = layer;
            readFoul[readings] = g.foul;
            shown[readings] = g.latest;
            readings++;
        }

        int addCleaning(int glider, int tooMuch, int foul) {
            cleanOf[cleanings] = glider;
            tooMuches[cleanings] = tooMuch;
            cleanFoul[cleanings] = foul;
            readingsAhead[cleanings] = readings;
            cleanings++;
            return cleanings;
        }

        int putRight(int reading) {
            for (int i = 0; i < cleanings; i++) {
                boolean isLater = cleanOf[i] == readBy[reading] && readingsAhead[i] > reading;
                if (isLater && cleanFoul[i] > 0) {
                    return shown[reading] - tooMuches[i] * (readFoul[reading] + 1) / cleanFoul[i];
                }
            }
            return shown[reading] - FOUL_SHOWS * readFoul[reading];
        }
    }

    /** An ORDER as it was read: its CHECKS in a line, and for each RULE where they end. */
    private static final class Order {
        int rules = 0;
        int checks = 0;
        final int[] checksEnd = new int[MOST_RULES];
        final int[] act = new int[MOST_RULES];
        final int[] goal = new int[MOST_RULES];
        final int[] layers = new int[MOST_RULES];
        final int[] fields = new int[MOST_CHECKS];
        final int[] signs = new int[MOST_CHECKS];
        final int[] numbers = new int[MOST_CHECKS];
        final boolean[] turned = new boolean[MOST_CHECKS];

        void addCheck(int field, int sign, int number, boolean isTurned) {
            if (checks < MOST_CHECKS) {
                fields[checks] = field;
                signs[checks] = sign;
                numbers[checks] = number;
                turned[checks] = isTurned;
                checks++;
            }
        }

        void addRule(int newAct, int newGoal, int newLayer) {
            if (rules < MOST_RULES) {
                act[rules] = newAct;
                goal[rules] = newGoal;
                layers[rules] = newLayer;
                checksEnd[rules] = checks;
                rules++;
            }
        }

        boolean holds(int check, int value) {
            boolean is;
            switch (signs[check]) {
                case '<': is = value < numbers[check]; break;
                case '>': is = value > numbers[check]; break;
                default: is = value == numbers[check]; break;
            }
            return is != turned[check];
        }
    }

    /** Reads a text from its first byte on; where it can't go on, at stands on that byte. */
    private static final class OrderReader {
        private Order into = new Order();
        private int[] text = new int[0];
        private int size = 0;
        private int at = 0;

        /** The ORDER that was read; the next text is read into a new one. */
        Order handOver() {
            Order done = into;
            into = new Order();
            return done;
        }

        /** The place of the FAULT, or NONE. */
        int scan(int[] bytes, int length) {
            text = bytes;
            size = Math.min(length, bytes.length);
            at = 0;
            into.rules = 0;
            into.checks = 0;
            for (int rules = 0; at < size; rules++) {
                if (rules >= MOST_RULES || !takeRule()) {
                    return at;
                }
            }
            // An ORDER is RULES: a text without any ends too early, at its size.
            return into.rules > 0 ? NONE : at;
        }

        private boolean takeRule() {
            boolean goesOn = true;
            for (int checks = 0; goesOn && checks < size; checks++) {
                if (!takeCheck()) {
                    return false;
                }
                goesOn = take('&');
            }
            return take('?') && takeAct() && take(';');
        }

        private boolean takeCheck() {
            boolean isTurned = false;
            for (int i = 0; i < size && take('!'); i++) {
                isTurned = !isTurned;
            }
            int field = takeOneOf(FIELDS);
            if (field < 0) {
                return false;
            }
            int sign = takeOneOf(SIGNS);
            if (sign < 0) {
                return false;
            }
            int number = takeNumber();
            if (number < 0) {
                return false;
            }
            into.addCheck(field, sign, number, isTurned);
            return true;
        }

        private int takeNumber() {
            int number = takeDigit(9);
            for (int digits = 1; digits < 3 && number > 0; digits++) {
                int digit = takeDigit(9);
                if (digit < 0) {
                    return number;
                }
                number = 10 * number + digit;
            }
            return number;
        }

        private boolean takeAct() {
            if (take('u')) {
                into.addRule(STAY, 0, 0);
                return true;
            }
            if (take('s')) {
                return takeLayer(SINK, 0);
            }
            if (!take('g')) {
                return false;
            }
            int x = takeDigit(WIDTH - 1);
            if (x < 0) {
                return false;
            }
            int y = takeDigit(HEIGHT - 1);
            return y >= 0 && takeLayer(GO, cellOf(x, y));
        }

        private boolean takeLayer(int act, int goal) {
            int layer = takeDigit(LAYERS - 1);
            if (layer < 0) {
                return false;
            }
            into.addRule(act, goal, layer);
            return true;
        }

        private boolean take(char sign) {
            if (at >= size || text[at] != sign) {
                return false;
            }
            at++;
            return true;
        }

        private int takeOneOf(String choice) {
            for (int i = 0; i < choice.length(); i++) {
                if (take(choice.charAt(i))) {
                    return choice.charAt(i);
                }
            }
            return -1;
        }

        private int takeDigit(int most) {
            if (at >= size || text[at] < '0' || text[at] > '0' + most) {
                return -1;
            }
            at++;
            return text[at - 1] - '0';
        }
    }

    /** All that THE IMAGE holds. */
    private static final class World {
        final Sea sea = new Sea();
        final Glider[] fleet = new Glider[MOST_GLIDERS];
        int gliders = 0;
        int time = 0;
        int shipCell = 0;
        final int[] deafness = new int[MOST_TIME + 1];
        final Order[] orders = new Order[MOST_ORDERS];
        int orderCount = 0;
        final Mail mail = new Mail();
        final Probes probes = new Probes();
        final Path path = new Path();

        void become(World other) {
            sea.become(other.sea);
            gliders = other.gliders;
            for (int i = 0; i < gliders; i++) {
                roomFor(i).become(other.fleet[i]);
            }
            time = other.time;
            shipCell = other.shipCell;
            copyAll(other.deafness, deafness);
            orderCount = other.orderCount;
            for (int i = 0; i < orderCount; i++) {
                orders[i] = other.orders[i];
            }
            mail.become(other.mail);
            probes.become(other.probes);
        }

        /** Behind a RESTORE there may be a GLIDER object to spare: it is used again. */
        private Glider roomFor(int number) {
            if (fleet[number] == null) {
                fleet[number] = new Glider();
            }
            return fleet[number];
        }

        int addGlider(int kind, int cell, int power) {
            roomFor(gliders).begin(kind, cell, power);
            return gliders++;
        }

        Glider gliderAt(int number) {
            return number >= 0 && number < gliders ? fleet[number] : null;
        }

        Order orderOf(Glider g) {
            return g.order >= 0 && g.order < orderCount ? orders[g.order] : null;
        }

        boolean isAnyUpWithin(int xs, int ys) {
            for (int i = 0; i < gliders; i++) {
                int x = xOf(fleet[i].cell);
                int y = yOf(fleet[i].cell);
                if (fleet[i].state == UP && x >= xs / 10 && x <= xs % 10
                    && y >= ys / 10 && y <= ys % 10) {
                    return true;
                }
            }
            return false;
        }

        int howMany(int state) {
            int many = 0;
            for (int i = 0; i < gliders; i++) {
                if (fleet[i].state == state) {
                    many++;
                }
            }
            return many;
        }

        int allPower() {
            int all = 0;
            for (int i = 0; i < gliders; i++) {
                all += fleet[i].power;
            }
            return all;
        }

        void hearAll() {
            if (deafness[time] == 1) {
                return;
            }
            for (int i = 0; i < gliders; i++) {
                Glider g = fleet[i];
                if (g.state == UP) {
                    g.order = mail.hearBy(i, time, g.order);
                    g.heard = time;
                    g.fixes[time] = g.cell;
                }
            }
        }

        /** How many DIVES the ORDERS made. */
        int obeyAll() {
            int dives = 0;
            for (int i = 0; i < gliders; i++) {
                Order order = orderOf(fleet[i]);
                if (fleet[i].state == UP && order != null && obey(fleet[i], order)) {
                    dives++;
                }
            }
            return dives;
        }

        private boolean obey(Glider g, Order order) {
            int rule = ruleFor(g, order);
            if (rule < 0 || order.act[rule] == STAY) {
                return false;
            }
            int layer = Math.min(order.layers[rule], g.deepest());
            if (g.power < g.costTo(layer)) {
                return false;
            }
            int east = 0;
            int north = 0;
            if (order.act[rule] == GO) {
                east = cut(xOf(order.goal[rule]) - xOf(g.cell), g.reach());
                north = cut(yOf(order.goal[rule]) - yOf(g.cell), g.reach() - Math.abs(east));
            }
            descend(g, layer, east, north);
            return true;
        }

        private static int cut(int steps, int most) {
            return Math.max(-most, Math.min(most, steps));
        }

        int ruleFor(Glider g, Order order) {
            int check = 0;
            for (int rule = 0; rule < order.rules; rule++) {
                boolean holds = true;
                for (; check < order.checksEnd[rule]; check++) {
                    holds = holds && order.holds(check, sensed(g, order.fields[check]));
                }
                if (holds) {
                    return rule;
                }
            }
            return NONE;
        }

        private int sensed(Glider g, int field) {
            switch (field) {
                case 'p': return g.power;
                case 'x': return xOf(g.cell);
                case 'y': return yOf(g.cell);
                case 'l': return g.leaks ? 1 : 0;
                case 'f': return g.foul;
                case 'h': return g.heard == NONE ? time : time - g.heard;
                case 't': return time % 10;
                case 's': return g.latest;
                default: return sea.depth[g.cell];
            }
        }

        /** A DIVE that may be: the CELL where it is UP, or that it is LOST. */
        int descend(Glider g, int layer, int east, int north) {
            int from = g.cell;
            g.power -= g.costTo(layer);
            g.dives++;
            path.sink(sea, sea.waters, from, layer, true);
            g.cell = path.cell;
            if (path.lost) {
                g.state = LOST;
                return LOST_ON_DIVE;
            }
            g.cell = sea.walked(path.cell, east, north);
            measure(g, path.sank);
            if (sea.lanes[g.cell] == 1) {
                g.power = Math.max(0, g.power - LANE_COST);
            }
            int meant = sea.walked(from, east, north);
            sea.learn(from, path.sank, xOf(g.cell) - xOf(meant), yOf(g.cell) - yOf(meant));
            return g.cell;
        }

        private void measure(Glider g, int sank) {
            int layer = Math.max(0, Math.min(sank, sea.depth[g.cell] - 1));
            g.latest = sea.salts[placeOf(g.cell, layer)] + FOUL_SHOWS * g.foul;
            g.measured = true;
            probes.addReading(numberOf(g), g, time, layer);
            sea.lessenDoubt(g.cell);
            g.foul++;
        }

        private int numberOf(Glider g) {
            for (int i = 0; i < gliders; i++) {
                if (fleet[i] == g) {
                    return i;
                }
            }
            return NONE;
        }
    }

    /** Goes through all HEADINGS of the PLAN's GLIDERS, and leaves what can't be better. */
    private static final class Planner {
        private final World world;
        private final Sea sea;
        private final int[] numbers = new int[PLANNED_GLIDERS];
        private int team = 0;
        /** For each GLIDER the ends that differ, each with the least HEADING that leads there. */
        private final int[] choices = new int[PLANNED_GLIDERS];
        private final int[] ends = new int[PLANNED_GLIDERS * MOST_HEADINGS];
        private final int[] headings = new int[PLANNED_GLIDERS * MOST_HEADINGS];
        private final int[] gains = new int[PLANNED_GLIDERS * MOST_HEADINGS];
        /** The most that the GLIDERS from this one on can gain, each for itself. */
        private final int[] mostFrom = new int[PLANNED_GLIDERS + 1];
        /** What of each CELL's DOUBT is gained by the GLIDERS that have their ends. */
        private final int[] covered = new int[CELLS];
        private final int[] uncovered = new int[PLANNED_GLIDERS * SIDES];
        private final int[] picked = new int[PLANNED_GLIDERS];
        private final int[] bestPicked = new int[PLANNED_GLIDERS];
        private int best = NONE;

        Planner(World planned) {
            world = planned;
            sea = planned.sea;
        }

        /** All GAIN of THE PLAN, or NONE. */
        int work(int layer) {
            team = 0;
            best = NONE;
            Arrays.fill(covered, 0);
            for (int i = 0; i < world.gliders && team < PLANNED_GLIDERS; i++) {
                Glider g = world.fleet[i];
                int depth = Math.min(layer, g.deepest());
                if (g.state == UP && g.power >= g.costTo(depth)) {
                    numbers[team] = i;
                    world.path.sink(sea, sea.map, g.cell, depth, false);
                    listEnds(team, world.path.cell, g.reach());
                    team++;
                }
            }
            sumMostFrom();
            search(0, 0);
            return best;
        }

        int headingOf(int glider) {
            for (int k = 0; k < team && best != NONE; k++) {
                if (numbers[k] == glider) {
                    return headings[bestPicked[k]];
                }
            }
            return NONE;
        }

        private void listEnds(int k, int cell, int reach) {
            choices[k] = 0;
            for (int east = -reach; east <= reach; east++) {
                int rest = reach - Math.abs(east);
                for (int north = -rest; north <= rest; north++) {
                    addEnd(k, sea.walked(cell, east, north), 20 * (east + 10) + north + 10);
                }
            }
        }

        private void addEnd(int k, int end, int heading) {
            int first = k * MOST_HEADINGS;
            int behind = first + choices[k];
            for (int i = first; i < behind; i++) {
                if (ends[i] == end) {
                    return;
                }
            }
            if (choices[k] < MOST_HEADINGS) {
                ends[behind] = end;
                headings[behind] = heading;
                gains[behind] = gainBy(end);
                choices[k]++;
            }
        }

        private void sumMostFrom() {
            mostFrom[team] = 0;
            for (int k = team - 1; k >= 0; k--) {
                int most = 0;
                for (int i = 0; i < choices[k]; i++) {
                    most = Math.max(most, gains[k * MOST_HEADINGS + i]);
                }
                mostFrom[k] = mostFrom[k + 1] + most;
            }
        }

        /** k is how many GLIDERS have their ends: it goes no deeper than the team's size. */
        private void search(int k, int gain) {
            if (k >= team) {
                best = gain;
                copyAll(picked, bestPicked);
                return;
            }
            int first = k * MOST_HEADINGS;
            for (int i = first; i < first + choices[k]; i++) {
                boolean mayBeBetter = gain + gains[i] + mostFrom[k + 1] > best;
                if (!mayBeBetter || isTaken(k, ends[i])) {
                    continue;
                }
                int more = gainBy(ends[i]);
                if (gain + more + mostFrom[k + 1] > best) {
                    picked[k] = i;
                    cover(k, ends[i]);
                    search(k + 1, gain + more);
                    uncover(k, ends[i]);
                }
            }
        }

        private boolean isTaken(int k, int end) {
            for (int j = 0; j < k; j++) {
                if (ends[picked[j]] == end) {
                    return true;
                }
            }
            return false;
        }

        /** What is gained of a CELL from an end: all of its DOUBT there, half beside. */
        private int worth(int cell, int side) {
            return side == 0 ? sea.doubt[cell] : (sea.doubt[cell] + 1) / 2;
        }

        private int gainBy(int end) {
            int gain = 0;
            for (int side = 0; side < SIDES; side++) {
                int cell = sea.beside(end, side);
                if (cell >= 0) {
                    gain += Math.max(0, worth(cell, side) - covered[cell]);
                }
            }
            return gain;
        }

        private void cover(int k, int end) {
            for (int side = 0; side < SIDES; side++) {
                int cell = sea.beside(end, side);
                if (cell >= 0) {
                    uncovered[k * SIDES + side] = covered[cell];
                    covered[cell] = Math.max(covered[cell], worth(cell, side));
                }
            }
        }

        private void uncover(int k, int end) {
            for (int side = 0; side < SIDES; side++) {
                int cell = sea.beside(end, side);
                if (cell >= 0) {
                    covered[cell] = uncovered[k * SIDES + side];
                }
            }
        }
    }

    private static final class Shelf {
        int holds = HOLDS_NOTHING;
        int sort = 0;
        int size = 0;
        final int[] elements = new int[MOST_ELEMENTS];
        int kind = 0;
        int cell = 0;
        int power = 0;
        int state = 0;

        void holdGlider(Glider g) {
            holds = HOLDS_GLIDER;
            kind = g.kind;
            cell = g.cell;
            power = g.power;
            state = g.state;
        }

        void holdRow(int newSort, int newSize) {
            holds = HOLDS_ROW;
            sort = newSort;
            size = newSize;
            Arrays.fill(elements, 0);
        }

        /** Why no text is here, or 0. */
        int refusesAsText() {
            if (holds == HOLDS_NOTHING) {
                return NOTHING_HELD;
            }
            return holds == HOLDS_ROW && sort == BYTES ? 0 : OTHER_KIND;
        }
    }
}
