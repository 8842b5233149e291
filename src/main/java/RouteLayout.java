import java.util.Arrays;

/**
 * Draws directed routes in layers: cycles are broken, boxes get layers (some are pinned), long
 * arrows dummies, layers are ordered by medians and in the end exactly, places are straightened,
 * level pieces get tracks; a redrawing keeps old orders if it costs little.
 *
 * <p>All rows are made in the constructors and used again: a call makes nothing but what it throws.
 */
public final class RouteLayout {

    private static final int NONE = -1;
    private static final int BOXES = 16;
    private static final int ARROWS = 24;
    private static final int MOST_WIDTH = 50;
    private static final int LAST_PIN = 8;
    private static final int MOST_ROUNDS = 4;
    private static final int MOST_TOLERANCE = 100000;
    private static final int DUMMY_NAME = 100;

    /** The last pin, and behind it one layer for each of the other boxes. */
    private static final int LAYERS = LAST_PIN + BOXES;

    /**
     * In one layer an item is told from the others by a code: a box by its number, a dummy by
     * BOXES and its arrow's number, as no arrow has two dummies in one layer.
     */
    private static final int CODES = BOXES + ARROWS;

    /** Beyond every x and every number of crossings; LANGUAGE.md has no Integer.MAX_VALUE. */
    private static final int BEYOND = 1 << 30;

    private final Routes routes;
    private final Levels levels;
    private final Pieces pieces;
    private final Crossings crossings;
    private final Orderer orderer;
    private final Columns columns;
    private final Tracks tracks;

    /** OLD, and while something is told also what is told. */
    private Order latest;
    private Order fresh;
    private Order kept;
    private boolean told;

    public RouteLayout() {
        routes = new Routes();
        levels = new Levels(routes);
        pieces = new Pieces();
        crossings = new Crossings(pieces);
        orderer = new Orderer(pieces, crossings);
        columns = new Columns(routes, pieces);
        tracks = new Tracks(pieces, columns);
        latest = new Order();
        fresh = new Order();
        kept = new Order();
        told = false;
    }

    public void box(int id, int width) throws IllegalArgumentException {
        needBoxNumber(id);
        if (width < 1 || width > MOST_WIDTH) {
            throw new IllegalArgumentException("no such width");
        }
        routes.putBox(id, width);
        told = false;
    }

    public boolean remove(int id) throws IllegalArgumentException {
        needBoxNumber(id);
        if (!routes.hasBox(id)) {
            return false;
        }
        routes.takeBox(id);
        told = false;
        return true;
    }

    public void arrow(int a, int from, int to) throws IllegalArgumentException {
        needArrowNumber(a);
        needBox(from);
        needBox(to);
        if (from == to) {
            throw new IllegalArgumentException("an arrow from a box to itself");
        }
        routes.putArrow(a, from, to);
        told = false;
    }

    public boolean drop(int a) throws IllegalArgumentException {
        needArrowNumber(a);
        if (!routes.hasArrow(a)) {
            return false;
        }
        routes.takeArrow(a);
        told = false;
        return true;
    }

    public void pin(int id, int layer) throws IllegalArgumentException {
        needBox(id);
        if (layer < NONE || layer > LAST_PIN) {
            throw new IllegalArgumentException("no such layer");
        }
        routes.pinBox(id, layer);
        told = false;
    }

    public boolean draw(int rounds) throws IllegalArgumentException {
        needRounds(rounds);
        if (!prepare()) {
            return false;
        }
        fresh.startFirst(levels);
        orderer.improve(fresh, rounds);
        takeFresh();
        finish();
        return true;
    }

    public int redraw(int rounds, int tolerance) throws IllegalArgumentException {
        needRounds(rounds);
        if (tolerance < 0 || tolerance > MOST_TOLERANCE) {
            throw new IllegalArgumentException("no such tolerance");
        }
        if (!prepare()) {
            return NONE;
        }
        fresh.startFirst(levels);
        orderer.improve(fresh, rounds);
        kept.startLike(latest, levels);
        boolean tooDear = crossings.inAll(kept) - crossings.inAll(fresh) > tolerance;
        int moved = movedBoxes(tooDear ? fresh : kept);
        if (tooDear) {
            takeFresh();
        } else {
            takeKept();
        }
        finish();
        return moved;
    }

    public int at(int id, int what) throws IllegalArgumentException {
        needBoxNumber(id);
        needWhat(what, 2);
        if (!told || !routes.hasBox(id)) {
            return NONE;
        }
        int layer = levels.layerOf(id);
        switch (what) {
            case 0:
                return layer;
            case 1:
                return latest.placeIn(layer, id);
            default:
                return columns.leftOf(layer, id);
        }
    }

    public int reversed(int a) throws IllegalArgumentException {
        needArrowNumber(a);
        if (!routes.hasArrow(a)) {
            return NONE;
        }
        return routes.isTurned(a) ? 1 : 0;
    }

    public int item(int layer, int place) {
        if (!told) {
            return NONE;
        }
        int code = latest.itemIn(layer, place);
        return code < BOXES ? code : DUMMY_NAME + code - BOXES;
    }

    public int piece(int a, int layer, int what) throws IllegalArgumentException {
        needArrowNumber(a);
        needWhat(what, 2);
        if (!told || !levels.hasPiece(a, layer)) {
            return NONE;
        }
        switch (what) {
            case 0:
                return columns.middleOf(layer, levels.itemOf(a, layer));
            case 1:
                return columns.middleOf(layer + 1, levels.itemOf(a, layer + 1));
            default:
                return tracks.trackOf(a, layer);
        }
    }

    public int between(int layer, int what) throws IllegalArgumentException {
        needWhat(what, 1);
        if (!told || layer < 0 || layer >= levels.layers() - 1) {
            return NONE;
        }
        return what == 0 ? crossings.inGap(latest, layer) : tracks.tracksIn(layer);
    }

    public int count(int what) {
        switch (what) {
            case 0:
                return routes.boxes();
            case 1:
                return routes.arrows();
            case 2:
                return routes.turnedArrows();
            default:
                return told ? toldSum(what) : NONE;
        }
    }

    private int toldSum(int what) {
        switch (what) {
            case 3:
                return levels.layers();
            case 4:
                return latest.items();
            case 5:
                return crossings.inAll(latest);
            case 6:
                return columns.greatestEnd(latest);
            case 7:
                return tracks.mostTracks();
            default:
                return NONE;
        }
    }

    private static void needBoxNumber(int id) {
        if (id < 0 || id >= BOXES) {
            throw new IllegalArgumentException("no such box");
        }
    }

    private static void needArrowNumber(int a) {
        if (a < 0 || a >= ARROWS) {
            throw new IllegalArgumentException("no such arrow");
        }
    }

    private void needBox(int id) {
        if (!routes.hasBox(id)) {
            throw new IllegalArgumentException("the box isn't there");
        }
    }

    private static void needRounds(int rounds) {
        if (rounds < 0 || rounds > MOST_ROUNDS) {
            throw new IllegalArgumentException("no such number of rounds");
        }
    }

    private static void needWhat(int what, int last) {
        if (what < 0 || what > last) {
            throw new IllegalArgumentException("no such what");
        }
    }

    /** Finds layers and pieces; false if the pins contradict, and then nothing is told. */
    private boolean prepare() {
        told = false;
        if (!levels.settle()) {
            return false;
        }
        pieces.collect(levels);
        return true;
    }

    private void takeFresh() {
        Order before = latest;
        latest = fresh;
        fresh = before;
    }

    private void takeKept() {
        Order before = latest;
        latest = kept;
        kept = before;
    }

    private void finish() {
        columns.lay(latest);
        tracks.share(latest);
        told = true;
    }

    private int movedBoxes(Order now) {
        int moved = 0;
        for (int id = 0; id < BOXES; id++) {
            if (routes.hasBox(id) && latest.holdsBox(id) && !now.sameSpot(latest, id)) {
                moved++;
            }
        }
        return moved;
    }

    /** The boxes, pins and arrows that are there, and which arrows are reversed. */
    private static final class Routes {
        /** 0 for a box that isn't there. */
        private final int[] width = new int[BOXES];
        private final int[] pinned = new int[BOXES];
        /** NONE for an arrow that isn't there. */
        private final int[] from = new int[ARROWS];
        private final int[] to = new int[ARROWS];
        private final boolean[] turned = new boolean[ARROWS];
        /** For each box a bit for every box that kept arrows lead to. */
        private final int[] reach = new int[BOXES];

        Routes() {
            Arrays.fill(pinned, NONE);
            Arrays.fill(from, NONE);
            Arrays.fill(to, NONE);
        }

        boolean hasBox(int id) {
            return id >= 0 && id < BOXES && width[id] > 0;
        }

        boolean hasArrow(int a) {
            return a >= 0 && a < ARROWS && from[a] != NONE;
        }

        void putBox(int id, int newWidth) {
            if (id >= 0 && id < BOXES) {
                width[id] = newWidth;
            }
        }

        void takeBox(int id) {
            if (!hasBox(id)) {
                return;
            }
            width[id] = 0;
            pinned[id] = NONE;
            for (int a = 0; a < ARROWS; a++) {
                if (from[a] == id || to[a] == id) {
                    from[a] = NONE;
                    to[a] = NONE;
                }
            }
            turnArrows();
        }

        void putArrow(int a, int start, int end) {
            if (a >= 0 && a < ARROWS && hasBox(start) && hasBox(end)) {
                from[a] = start;
                to[a] = end;
                turnArrows();
            }
        }

        void takeArrow(int a) {
            if (hasArrow(a)) {
                from[a] = NONE;
                to[a] = NONE;
                turnArrows();
            }
        }

        void pinBox(int id, int layer) {
            if (hasBox(id)) {
                pinned[id] = layer;
            }
        }

        boolean isPinned(int id) {
            return hasBox(id) && pinned[id] != NONE;
        }

        int pinOf(int id) {
            return hasBox(id) ? pinned[id] : NONE;
        }

        boolean isTurned(int a) {
            return hasArrow(a) && turned[a];
        }

        int upperBox(int a) {
            return !hasArrow(a) ? NONE : turned[a] ? to[a] : from[a];
        }

        int lowerBox(int a) {
            return !hasArrow(a) ? NONE : turned[a] ? from[a] : to[a];
        }

        int widthOf(int code) {
            return hasBox(code) ? width[code] : 1;
        }

        int boxes() {
            int sum = 0;
            for (int id = 0; id < BOXES; id++) {
                if (hasBox(id)) {
                    sum++;
                }
            }
            return sum;
        }

        int arrows() {
            int sum = 0;
            for (int a = 0; a < ARROWS; a++) {
                if (hasArrow(a)) {
                    sum++;
                }
            }
            return sum;
        }

        int turnedArrows() {
            int sum = 0;
            for (int a = 0; a < ARROWS; a++) {
                if (isTurned(a)) {
                    sum++;
                }
            }
            return sum;
        }

        private void turnArrows() {
            Arrays.fill(reach, 0);
            for (int a = 0; a < ARROWS; a++) {
                turned[a] = hasArrow(a) && reaches(to[a], from[a]);
                if (hasArrow(a) && !turned[a]) {
                    keepArrow(from[a], to[a]);
                }
            }
        }

        private boolean reaches(int start, int end) {
            return hasBox(start) && (reach[start] >> end & 1) != 0;
        }

        private void keepArrow(int start, int end) {
            if (!hasBox(end)) {
                return;
            }
            int gained = reach[end] | 1 << end;
            for (int id = 0; id < BOXES; id++) {
                if (id == start || reaches(id, start)) {
                    reach[id] |= gained;
                }
            }
        }
    }

    /** The layers of the boxes, and so of all items. */
    private static final class Levels {
        private final Routes routes;
        private final int[] layer = new int[BOXES];
        private final int[] tops = new int[ARROWS];
        private final int[] bottoms = new int[ARROWS];
        private int layers;

        Levels(Routes routes) {
            this.routes = routes;
            Arrays.fill(layer, NONE);
            Arrays.fill(tops, NONE);
            Arrays.fill(bottoms, NONE);
            layers = 0;
        }

        /** False if the pins contradict the arrows. */
        boolean settle() {
            lift();
            // No chain of arrows is longer than there are boxes, so this many passes suffice.
            for (int pass = 0; pass < BOXES; pass++) {
                sink();
            }
            countLayers();
            markEnds();
            return pinsAgree();
        }

        int layers() {
            return layers;
        }

        int layerOf(int id) {
            return id >= 0 && id < BOXES ? layer[id] : NONE;
        }

        /** NONE, like bottom(), if the arrow isn't there. */
        int top(int a) {
            return a >= 0 && a < ARROWS ? tops[a] : NONE;
        }

        int bottom(int a) {
            return a >= 0 && a < ARROWS ? bottoms[a] : NONE;
        }

        boolean hasPiece(int a, int from) {
            return from >= top(a) && from < bottom(a);
        }

        /** The code of an arrow's item in a layer that it touches. */
        int itemOf(int a, int where) {
            if (where == top(a)) {
                return routes.upperBox(a);
            }
            return where == bottom(a) ? routes.lowerBox(a) : BOXES + a;
        }

        boolean holds(int where, int code) {
            if (code < BOXES) {
                return routes.hasBox(code) && layerOf(code) == where;
            }
            int a = code - BOXES;
            return where > top(a) && where < bottom(a);
        }

        private void lift() {
            for (int id = 0; id < BOXES; id++) {
                int free = routes.hasBox(id) ? 0 : NONE;
                layer[id] = routes.isPinned(id) ? routes.pinOf(id) : free;
            }
        }

        private void sink() {
            for (int a = 0; a < ARROWS; a++) {
                int lower = routes.lowerBox(a);
                int least = layerOf(routes.upperBox(a)) + 1;
                boolean free = routes.hasBox(lower) && !routes.isPinned(lower);
                if (free && layer[lower] < least && least < LAYERS) {
                    layer[lower] = least;
                }
            }
        }

        private void countLayers() {
            layers = 0;
            for (int id = 0; id < BOXES; id++) {
                layers = Math.max(layers, layer[id] + 1);
            }
        }

        private void markEnds() {
            for (int a = 0; a < ARROWS; a++) {
                tops[a] = layerOf(routes.upperBox(a));
                bottoms[a] = layerOf(routes.lowerBox(a));
            }
        }

        private boolean pinsAgree() {
            for (int a = 0; a < ARROWS; a++) {
                if (routes.hasArrow(a) && bottom(a) <= top(a)) {
                    return false;
                }
            }
            return true;
        }
    }

    /** The pieces, by the layer in which they begin, and there by their arrows' numbers. */
    private static final class Pieces {
        private final int[] size = new int[LAYERS];
        private final int[] arrows = new int[LAYERS * ARROWS];
        private final int[] uppers = new int[LAYERS * ARROWS];
        private final int[] lowers = new int[LAYERS * ARROWS];

        void collect(Levels levels) {
            Arrays.fill(size, 0);
            for (int a = 0; a < ARROWS; a++) {
                for (int layer = levels.top(a); layer < levels.bottom(a); layer++) {
                    add(layer, a, levels.itemOf(a, layer), levels.itemOf(a, layer + 1));
                }
            }
        }

        int sizeOf(int gap) {
            return gap >= 0 && gap < LAYERS ? size[gap] : 0;
        }

        int arrowOf(int gap, int k) {
            boolean there = gap >= 0 && gap < LAYERS && k >= 0 && k < size[gap];
            return there ? arrows[gap * ARROWS + k] : NONE;
        }

        /** The code of a piece's upper end, or of its lower one. */
        int endOf(int gap, int k, boolean upper) {
            if (gap < 0 || gap >= LAYERS || k < 0 || k >= size[gap]) {
                return NONE;
            }
            return upper ? uppers[gap * ARROWS + k] : lowers[gap * ARROWS + k];
        }

        private void add(int gap, int a, int upper, int lower) {
            if (gap < 0 || gap >= LAYERS || size[gap] >= ARROWS) {
                return;
            }
            int spot = gap * ARROWS + size[gap];
            arrows[spot] = a;
            uppers[spot] = upper;
            lowers[spot] = lower;
            size[gap]++;
        }
    }

    /** The items of each layer from left to right. */
    private static final class Order {
        private int layers;
        private final int[] size = new int[LAYERS];
        private final int[] rows = new int[LAYERS * CODES];
        /** By layer and code; NONE for what isn't in the layer. */
        private final int[] places = new int[LAYERS * CODES];
        private final int[] home = new int[BOXES];

        Order() {
            empty(0);
        }

        void startFirst(Levels levels) {
            empty(levels.layers());
            appendMissing(levels);
        }

        void startLike(Order old, Levels levels) {
            empty(levels.layers());
            for (int layer = 0; layer < layers; layer++) {
                for (int place = 0; place < old.sizeOf(layer); place++) {
                    int code = old.itemIn(layer, place);
                    if (levels.holds(layer, code)) {
                        append(layer, code);
                    }
                }
            }
            appendMissing(levels);
        }

        int layers() {
            return layers;
        }

        int sizeOf(int layer) {
            return layer >= 0 && layer < layers && layer < LAYERS ? size[layer] : 0;
        }

        int items() {
            int sum = 0;
            for (int layer = 0; layer < layers; layer++) {
                sum += sizeOf(layer);
            }
            return sum;
        }

        int itemIn(int layer, int place) {
            boolean there = place >= 0 && place < sizeOf(layer);
            return there ? rows[layer * CODES + place] : NONE;
        }

        int placeIn(int layer, int code) {
            boolean sound = layer >= 0 && layer < LAYERS && code >= 0 && code < CODES;
            return sound ? places[layer * CODES + code] : NONE;
        }

        void put(int layer, int place, int code) {
            if (place < 0 || place >= sizeOf(layer) || code < 0 || code >= CODES) {
                return;
            }
            rows[layer * CODES + place] = code;
            places[layer * CODES + code] = place;
            if (code < BOXES) {
                home[code] = layer;
            }
        }

        boolean holdsBox(int id) {
            return homeOf(id) != NONE;
        }

        boolean sameSpot(Order other, int id) {
            int layer = homeOf(id);
            return layer == other.homeOf(id) && placeIn(layer, id) == other.placeIn(layer, id);
        }

        private int homeOf(int id) {
            return id >= 0 && id < BOXES ? home[id] : NONE;
        }

        private void empty(int newLayers) {
            layers = Math.min(newLayers, LAYERS);
            Arrays.fill(size, 0);
            Arrays.fill(places, NONE);
            Arrays.fill(home, NONE);
        }

        private void append(int layer, int code) {
            if (layer >= 0 && layer < LAYERS && size[layer] < CODES) {
                size[layer]++;
                put(layer, size[layer] - 1, code);
            }
        }

        private void appendMissing(Levels levels) {
            for (int layer = 0; layer < layers; layer++) {
                for (int code = 0; code < CODES; code++) {
                    if (levels.holds(layer, code) && placeIn(layer, code) == NONE) {
                        append(layer, code);
                    }
                }
            }
        }
    }

    /** Counts the crossings of an order. */
    private static final class Crossings {
        private final Pieces pieces;
        private final int[] upper = new int[ARROWS];
        private final int[] lower = new int[ARROWS];

        Crossings(Pieces pieces) {
            this.pieces = pieces;
        }

        int inAll(Order order) {
            int sum = 0;
            for (int gap = 0; gap < order.layers() - 1; gap++) {
                sum += inGap(order, gap);
            }
            return sum;
        }

        int around(Order order, int layer) {
            return inGap(order, layer - 1) + inGap(order, layer);
        }

        /** Crossings of a layer and the next one; 0 where there are no such two. */
        int inGap(Order order, int gap) {
            int n = Math.min(pieces.sizeOf(gap), ARROWS);
            int sum = 0;
            for (int k = 0; k < n; k++) {
                upper[k] = order.placeIn(gap, pieces.endOf(gap, k, true));
                lower[k] = order.placeIn(gap + 1, pieces.endOf(gap, k, false));
                for (int other = 0; other < k; other++) {
                    int above = Integer.compare(upper[k], upper[other]);
                    if (above * Integer.compare(lower[k], lower[other]) < 0) {
                        sum++;
                    }
                }
            }
            return sum;
        }
    }

    /** Orders layers by medians, and at last exactly. */
    private static final class Orderer {
        private final Pieces pieces;
        private final Crossings crossings;
        private final BestRow bestRow;
        /** Of the pieces on one side of a layer: the item in it, and the neighbour's place. */
        private final int[] own = new int[ARROWS];
        private final int[] far = new int[ARROWS];
        private final int[] degree = new int[CODES];
        private final int[] seen = new int[CODES];
        private final int[] median = new int[CODES];
        /** The items of a layer that have medians: as they stood, as they want to, and where. */
        private final int[] stood = new int[CODES];
        private final int[] sorted = new int[CODES];
        private final int[] spots = new int[CODES];
        private int movers;

        Orderer(Pieces pieces, Crossings crossings) {
            this.pieces = pieces;
            this.crossings = crossings;
            bestRow = new BestRow(pieces);
            movers = 0;
        }

        void improve(Order order, int rounds) {
            for (int round = 0; round < rounds; round++) {
                sweep(order);
            }
            for (int layer = 1; layer < order.layers(); layer++) {
                bestRow.arrange(order, layer);
            }
        }

        private void sweep(Order order) {
            for (int layer = 1; layer < order.layers(); layer++) {
                step(order, layer, true);
            }
            for (int layer = order.layers() - 2; layer >= 0; layer--) {
                step(order, layer, false);
            }
        }

        private void step(Order order, int layer, boolean byUpper) {
            findMedians(loadEnds(order, layer, byUpper));
            gatherMovers(order, layer);
            if (!sortMovers()) {
                return;
            }
            int before = crossings.around(order, layer);
            putMovers(order, layer, sorted);
            if (crossings.around(order, layer) > before) {
                putMovers(order, layer, stood);
            }
        }

        /** Takes the pieces on one side of a layer by their neighbours' places; how many. */
        private int loadEnds(Order order, int layer, boolean byUpper) {
            int gap = byUpper ? layer - 1 : layer;
            int beyond = byUpper ? layer - 1 : layer + 1;
            int n = Math.min(pieces.sizeOf(gap), ARROWS);
            for (int k = 0; k < n; k++) {
                int code = pieces.endOf(gap, k, !byUpper);
                int place = order.placeIn(beyond, pieces.endOf(gap, k, byUpper));
                int spot = k;
                while (spot > 0 && far[spot - 1] > place) {
                    far[spot] = far[spot - 1];
                    own[spot] = own[spot - 1];
                    spot--;
                }
                far[spot] = place;
                own[spot] = code;
            }
            return n;
        }

        private void findMedians(int n) {
            Arrays.fill(degree, 0);
            Arrays.fill(seen, 0);
            Arrays.fill(median, NONE);
            for (int k = 0; k < n; k++) {
                if (isCode(own[k])) {
                    degree[own[k]]++;
                }
            }
            for (int k = 0; k < n; k++) {
                int code = own[k];
                if (!isCode(code)) {
                    continue;
                }
                if (seen[code] == (degree[code] - 1) / 2) {
                    median[code] = far[k];
                }
                seen[code]++;
            }
        }

        private void gatherMovers(Order order, int layer) {
            movers = 0;
            int n = Math.min(order.sizeOf(layer), CODES);
            for (int place = 0; place < n; place++) {
                int code = order.itemIn(layer, place);
                if (isCode(code) && median[code] != NONE) {
                    stood[movers] = code;
                    spots[movers] = place;
                    movers++;
                }
            }
        }

        /** False if the items already stand by their medians. */
        private boolean sortMovers() {
            boolean changed = false;
            for (int k = 0; k < movers; k++) {
                int code = stood[k];
                int spot = k;
                while (spot > 0 && median[sorted[spot - 1]] > median[code]) {
                    sorted[spot] = sorted[spot - 1];
                    spot--;
                    changed = true;
                }
                sorted[spot] = code;
            }
            return changed;
        }

        private void putMovers(Order order, int layer, int[] codes) {
            for (int k = 0; k < movers; k++) {
                order.put(layer, spots[k], codes[k]);
            }
        }

        private static boolean isCode(int code) {
            return code >= 0 && code < CODES;
        }
    }

    /** Finds the best order of a layer of few items against the layer above. */
    private static final class BestRow {
        private static final int MOST = 6;

        private final Pieces pieces;
        /** What it costs if the item that had the first place stands ahead of the second's. */
        private final int[] cost = new int[MOST * MOST];
        /** Of each piece from the layer above: its upper end's place and its lower end's. */
        private final int[] above = new int[ARROWS];
        private final int[] below = new int[ARROWS];
        private final int[] codes = new int[MOST];
        private final boolean[] used = new boolean[MOST];
        private final int[] chosen = new int[MOST];
        private final int[] best = new int[MOST];
        private int bestCost;
        private int size;

        BestRow(Pieces pieces) {
            this.pieces = pieces;
            bestCost = 0;
            size = 0;
        }

        void arrange(Order order, int layer) {
            size = order.sizeOf(layer);
            if (size > MOST) {
                return;
            }
            findCosts(order, layer);
            for (int place = 0; place < size; place++) {
                codes[place] = order.itemIn(layer, place);
                used[place] = false;
            }
            bestCost = BEYOND;
            choose(0, 0);
            for (int place = 0; place < size; place++) {
                order.put(layer, place, codes[best[place]]);
            }
        }

        private void findCosts(Order order, int layer) {
            Arrays.fill(cost, 0);
            int gap = layer - 1;
            int n = Math.min(pieces.sizeOf(gap), ARROWS);
            for (int k = 0; k < n; k++) {
                above[k] = order.placeIn(gap, pieces.endOf(gap, k, true));
                below[k] = order.placeIn(layer, pieces.endOf(gap, k, false));
                for (int other = 0; other < k; other++) {
                    addCost(k, other);
                    addCost(other, k);
                }
            }
        }

        /** Two pieces cross if the one with the upper end on the right has its lower one ahead. */
        private void addCost(int ahead, int behind) {
            boolean sound = isPlace(below[ahead]) && isPlace(below[behind]);
            if (sound && above[ahead] > above[behind]) {
                cost[below[ahead] * MOST + below[behind]]++;
            }
        }

        /** Tries orders from the first one on, so only a cheaper one may replace the best. */
        private void choose(int depth, int spent) {
            if (spent >= bestCost) {
                return;
            }
            if (depth >= size || depth >= MOST) {
                bestCost = spent;
                System.arraycopy(chosen, 0, best, 0, MOST);
                return;
            }
            for (int place = 0; place < size; place++) {
                if (!used[place]) {
                    chosen[depth] = place;
                    chooseBehind(place, depth, spent);
                }
            }
        }

        private void chooseBehind(int place, int depth, int spent) {
            used[place] = true;
            choose(depth + 1, spent + costAhead(place));
            used[place] = false;
        }

        private int costAhead(int place) {
            int sum = 0;
            for (int later = 0; later < size; later++) {
                if (!used[later]) {
                    sum += cost[place * MOST + later];
                }
            }
            return sum;
        }

        private static boolean isPlace(int place) {
            return place >= 0 && place < MOST;
        }
    }

    /** The x of the items of an order. */
    private static final class Columns {
        private static final int SPACE = 4;
        private static final int PASSES = 4;

        private final Routes routes;
        private final Pieces pieces;
        /** By layer and code. */
        private final int[] x = new int[LAYERS * CODES];
        /** By code, for one layer: its neighbours' middles together, and how many they are. */
        private final int[] sum = new int[CODES];
        private final int[] degree = new int[CODES];

        Columns(Routes routes, Pieces pieces) {
            this.routes = routes;
            this.pieces = pieces;
        }

        void lay(Order order) {
            for (int layer = 0; layer < order.layers(); layer++) {
                pack(order, layer);
            }
            for (int pass = 0; pass < PASSES; pass++) {
                boolean byUpper = pass % 2 == 0;
                for (int k = 0; k < order.layers(); k++) {
                    int layer = byUpper ? k : order.layers() - 1 - k;
                    addMiddles(layer, byUpper);
                    straighten(order, layer);
                }
            }
            shift(order, leastX(order));
        }

        int leftOf(int layer, int code) {
            return isSpot(layer, code) ? x[layer * CODES + code] : 0;
        }

        int middleOf(int layer, int code) {
            return leftOf(layer, code) + routes.widthOf(code) / 2;
        }

        int greatestEnd(Order order) {
            int greatest = 0;
            for (int layer = 0; layer < order.layers(); layer++) {
                for (int place = 0; place < order.sizeOf(layer); place++) {
                    greatest = Math.max(greatest, endOf(layer, order.itemIn(layer, place)));
                }
            }
            return greatest;
        }

        private int endOf(int layer, int code) {
            return leftOf(layer, code) + routes.widthOf(code);
        }

        private void pack(Order order, int layer) {
            int next = 0;
            for (int place = 0; place < order.sizeOf(layer); place++) {
                int code = order.itemIn(layer, place);
                move(layer, code, next);
                next = endOf(layer, code) + SPACE;
            }
        }

        private void addMiddles(int layer, boolean byUpper) {
            Arrays.fill(sum, 0);
            Arrays.fill(degree, 0);
            int gap = byUpper ? layer - 1 : layer;
            int beyond = byUpper ? layer - 1 : layer + 1;
            for (int k = 0; k < pieces.sizeOf(gap); k++) {
                int code = pieces.endOf(gap, k, !byUpper);
                if (code >= 0 && code < CODES) {
                    sum[code] += middleOf(beyond, pieces.endOf(gap, k, byUpper));
                    degree[code]++;
                }
            }
        }

        private void straighten(Order order, int layer) {
            int least = -BEYOND;
            for (int place = 0; place < order.sizeOf(layer); place++) {
                int code = order.itemIn(layer, place);
                move(layer, code, Math.max(wanted(layer, code), least));
                least = endOf(layer, code) + SPACE;
            }
        }

        private int wanted(int layer, int code) {
            if (code < 0 || code >= CODES || degree[code] <= 0) {
                return leftOf(layer, code);
            }
            // x may fall below 0 but no middle ever does, so the division goes down.
            return sum[code] / degree[code] - routes.widthOf(code) / 2;
        }

        private int leastX(Order order) {
            int least = BEYOND;
            for (int layer = 0; layer < order.layers(); layer++) {
                for (int place = 0; place < order.sizeOf(layer); place++) {
                    least = Math.min(least, leftOf(layer, order.itemIn(layer, place)));
                }
            }
            return least;
        }

        private void shift(Order order, int least) {
            for (int layer = 0; layer < order.layers(); layer++) {
                for (int place = 0; place < order.sizeOf(layer); place++) {
                    int code = order.itemIn(layer, place);
                    move(layer, code, leftOf(layer, code) - least);
                }
            }
        }

        private void move(int layer, int code, int newX) {
            if (isSpot(layer, code)) {
                x[layer * CODES + code] = newX;
            }
        }

        private static boolean isSpot(int layer, int code) {
            return layer >= 0 && layer < LAYERS && code >= 0 && code < CODES;
        }
    }

    /** The tracks of the level parts. */
    private static final class Tracks {
        private final Pieces pieces;
        private final Columns columns;
        /** By layer and arrow; NONE without a level part. */
        private final int[] track = new int[LAYERS * ARROWS];
        private final int[] used = new int[LAYERS];
        /** The level parts of one gap, as they are taken. */
        private final int[] left = new int[ARROWS];
        private final int[] right = new int[ARROWS];
        private final int[] arrows = new int[ARROWS];
        private final int[] trackEnd = new int[ARROWS];

        Tracks(Pieces pieces, Columns columns) {
            this.pieces = pieces;
            this.columns = columns;
        }

        void share(Order order) {
            Arrays.fill(track, NONE);
            Arrays.fill(used, 0);
            for (int gap = 0; gap < order.layers() - 1; gap++) {
                shareGap(gap, gatherParts(gap));
            }
        }

        int trackOf(int a, int gap) {
            boolean sound = a >= 0 && a < ARROWS && gap >= 0 && gap < LAYERS;
            return sound ? track[gap * ARROWS + a] : NONE;
        }

        int tracksIn(int gap) {
            return gap >= 0 && gap < LAYERS ? used[gap] : 0;
        }

        int mostTracks() {
            int most = 0;
            for (int gap = 0; gap < LAYERS; gap++) {
                most = Math.max(most, used[gap]);
            }
            return most;
        }

        private int gatherParts(int gap) {
            int parts = 0;
            int n = Math.min(pieces.sizeOf(gap), ARROWS);
            for (int k = 0; k < n; k++) {
                int upper = columns.middleOf(gap, pieces.endOf(gap, k, true));
                int lower = columns.middleOf(gap + 1, pieces.endOf(gap, k, false));
                if (upper != lower) {
                    int spot = openSpot(parts, Math.min(upper, lower));
                    left[spot] = Math.min(upper, lower);
                    right[spot] = Math.max(upper, lower);
                    arrows[spot] = pieces.arrowOf(gap, k);
                    parts++;
                }
            }
            return parts;
        }

        /** Pieces come by their arrows' numbers, so one goes behind those that begin as it does. */
        private int openSpot(int parts, int begin) {
            int spot = parts;
            while (spot > 0 && left[spot - 1] > begin) {
                left[spot] = left[spot - 1];
                right[spot] = right[spot - 1];
                arrows[spot] = arrows[spot - 1];
                spot--;
            }
            return spot;
        }

        private void shareGap(int gap, int parts) {
            if (gap < 0 || gap >= LAYERS) {
                return;
            }
            for (int k = 0; k < parts; k++) {
                int free = 0;
                while (free < used[gap] && trackEnd[free] >= left[k]) {
                    free++;
                }
                used[gap] = Math.max(used[gap], free + 1);
                // Each part on a track ends behind those ahead of it, so the last end is enough.
                trackEnd[free] = right[k];
                if (arrows[k] >= 0 && arrows[k] < ARROWS) {
                    track[gap * ARROWS + arrows[k]] = free;
                }
            }
        }
    }
}
