import java.util.ArrayList;
import java.util.Arrays;
import java.util.Collections;
import java.util.Comparator;
import java.util.HashMap;
import java.util.HashSet;
import java.util.List;
import java.util.Map;
import java.util.Set;
import java.util.TreeMap;

/**
 * The document once more, written by its words with lists and maps and without care for speed; the
 * real class is held against it. Items are named as item() names them, in their layers.
 */
final class PlainModel {
    private record Arrow(int from, int to) {}

    private record Piece(int a, int upper, int lower) {}

    private final TreeMap<Integer, Integer> widths = new TreeMap<>();
    private final TreeMap<Integer, Integer> pins = new TreeMap<>();
    private final TreeMap<Integer, Arrow> arrows = new TreeMap<>();

    private List<List<Integer>> old = new ArrayList<>();
    private boolean told = false;
    private Map<Integer, Integer> layerOf = new HashMap<>();
    private List<List<Piece>> pieces = new ArrayList<>();
    private List<Map<Integer, Integer>> x = new ArrayList<>();
    private List<Map<Integer, Integer>> track = new ArrayList<>();

    private static void need(boolean good) {
        if (!good) {
            throw new IllegalArgumentException();
        }
    }

    void box(int id, int width) {
        need(id >= 0 && id <= 15 && width >= 1 && width <= 50);
        widths.put(id, width);
        told = false;
    }

    boolean remove(int id) {
        need(id >= 0 && id <= 15);
        if (widths.remove(id) == null) {
            return false;
        }
        pins.remove(id);
        arrows.values().removeIf(r -> r.from() == id || r.to() == id);
        told = false;
        return true;
    }

    void arrow(int a, int from, int to) {
        need(a >= 0 && a <= 23 && widths.containsKey(from) && widths.containsKey(to) && from != to);
        arrows.put(a, new Arrow(from, to));
        told = false;
    }

    boolean drop(int a) {
        need(a >= 0 && a <= 23);
        if (arrows.remove(a) == null) {
            return false;
        }
        told = false;
        return true;
    }

    void pin(int id, int layer) {
        need(widths.containsKey(id) && layer >= -1 && layer <= 8);
        if (layer == -1) {
            pins.remove(id);
        } else {
            pins.put(id, layer);
        }
        told = false;
    }

    private Set<Integer> turned() {
        Set<Integer> turned = new HashSet<>();
        List<Arrow> keptOnes = new ArrayList<>();
        for (var e : arrows.entrySet()) {
            if (leads(keptOnes, e.getValue().to(), e.getValue().from())) {
                turned.add(e.getKey());
            } else {
                keptOnes.add(e.getValue());
            }
        }
        return turned;
    }

    private static boolean leads(List<Arrow> along, int start, int end) {
        if (start == end) {
            return true;
        }
        for (Arrow r : along) {
            if (r.from() == start && leads(along, r.to(), end)) {
                return true;
            }
        }
        return false;
    }

    private Map<Integer, Arrow> downward() {
        Set<Integer> turned = turned();
        Map<Integer, Arrow> down = new TreeMap<>();
        arrows.forEach((a, r) -> down.put(a, turned.contains(a) ? new Arrow(r.to(), r.from()) : r));
        return down;
    }

    private int findLayer(int id, Map<Integer, Arrow> down, Map<Integer, Integer> found) {
        if (found.containsKey(id)) {
            return found.get(id);
        }
        int behind = 0;
        for (Arrow r : down.values()) {
            if (r.to() == id) {
                behind = Math.max(behind, findLayer(r.from(), down, found) + 1);
            }
        }
        int layer = pins.getOrDefault(id, behind);
        found.put(id, layer);
        return layer;
    }

    /** The first order, or null if the pins contradict; layers and pieces are found on the way. */
    private List<List<Integer>> first() {
        told = false;
        Map<Integer, Arrow> down = downward();
        Map<Integer, Integer> found = new HashMap<>();
        int last = -1;
        for (int id : widths.keySet()) {
            last = Math.max(last, findLayer(id, down, found));
        }
        for (Arrow r : down.values()) {
            if (found.get(r.to()) <= found.get(r.from())) {
                return null;
            }
        }
        layerOf = found;
        List<List<Integer>> order = new ArrayList<>();
        pieces = new ArrayList<>();
        for (int layer = 0; layer <= last; layer++) {
            List<Integer> row = new ArrayList<>();
            List<Piece> here = new ArrayList<>();
            for (int id : widths.keySet()) {
                if (found.get(id) == layer) {
                    row.add(id);
                }
            }
            for (var e : down.entrySet()) {
                int top = found.get(e.getValue().from());
                int bottom = found.get(e.getValue().to());
                int dummy = 100 + e.getKey();
                if (top < layer && layer < bottom) {
                    row.add(dummy);
                }
                if (top <= layer && layer < bottom) {
                    int upper = top == layer ? e.getValue().from() : dummy;
                    int lower = layer + 1 == bottom ? e.getValue().to() : dummy;
                    here.add(new Piece(e.getKey(), upper, lower));
                }
            }
            order.add(row);
            pieces.add(here);
        }
        return order;
    }

    private int crossings(List<Integer> above, List<Integer> below, int gap) {
        int sum = 0;
        for (Piece p : pieces.get(gap)) {
            for (Piece q : pieces.get(gap)) {
                if (above.indexOf(p.upper()) < above.indexOf(q.upper())
                        && below.indexOf(p.lower()) > below.indexOf(q.lower())) {
                    sum++;
                }
            }
        }
        return sum;
    }

    private int crossings(List<List<Integer>> order) {
        int sum = 0;
        for (int gap = 0; gap + 1 < order.size(); gap++) {
            sum += crossings(order.get(gap), order.get(gap + 1), gap);
        }
        return sum;
    }

    private int around(List<List<Integer>> order, int layer, List<Integer> row) {
        int sum = 0;
        if (layer > 0) {
            sum += crossings(order.get(layer - 1), row, layer - 1);
        }
        if (layer + 1 < order.size()) {
            sum += crossings(row, order.get(layer + 1), layer);
        }
        return sum;
    }

    private List<Integer> neighbours(int layer, int item, boolean upper) {
        List<Integer> all = new ArrayList<>();
        int gap = upper ? layer - 1 : layer;
        if (gap >= 0 && gap < pieces.size()) {
            for (Piece p : pieces.get(gap)) {
                if ((upper ? p.lower() : p.upper()) == item) {
                    all.add(upper ? p.upper() : p.lower());
                }
            }
        }
        return all;
    }

    private void step(List<List<Integer>> order, int layer, boolean upper) {
        List<Integer> row = order.get(layer);
        List<Integer> beyond = order.get(upper ? layer - 1 : layer + 1);
        Map<Integer, Integer> median = new HashMap<>();
        List<Integer> movers = new ArrayList<>();
        for (int item : row) {
            List<Integer> places = new ArrayList<>();
            for (int other : neighbours(layer, item, upper)) {
                places.add(beyond.indexOf(other));
            }
            Collections.sort(places);
            if (!places.isEmpty()) {
                median.put(item, places.get((places.size() - 1) / 2));
                movers.add(item);
            }
        }
        movers.sort(Comparator.comparing(median::get));
        List<Integer> next = new ArrayList<>();
        int taken = 0;
        for (int item : row) {
            next.add(median.containsKey(item) ? movers.get(taken++) : item);
        }
        if (around(order, layer, next) <= around(order, layer, row)) {
            order.set(layer, next);
        }
    }

    private void permute(List<Integer> rest, List<Integer> done, List<List<Integer>> all) {
        if (rest.isEmpty()) {
            all.add(done);
        }
        for (int k = 0; k < rest.size(); k++) {
            List<Integer> less = new ArrayList<>(rest);
            List<Integer> more = new ArrayList<>(done);
            more.add(less.remove(k));
            permute(less, more, all);
        }
    }

    private List<List<Integer>> drawn(List<List<Integer>> start, int rounds) {
        List<List<Integer>> order = new ArrayList<>(start);
        for (int round = 0; round < rounds; round++) {
            for (int layer = 1; layer < order.size(); layer++) {
                step(order, layer, true);
            }
            for (int layer = order.size() - 2; layer >= 0; layer--) {
                step(order, layer, false);
            }
        }
        for (int layer = 1; layer < order.size(); layer++) {
            if (order.get(layer).size() <= 6) {
                List<List<Integer>> all = new ArrayList<>();
                permute(order.get(layer), List.of(), all);
                List<Integer> best = all.get(0);
                int least = crossings(order.get(layer - 1), best, layer - 1);
                for (List<Integer> row : all) {
                    int cost = crossings(order.get(layer - 1), row, layer - 1);
                    if (cost < least) {
                        least = cost;
                        best = row;
                    }
                }
                order.set(layer, best);
            }
        }
        return order;
    }

    private int width(int item) {
        return item >= 100 ? 1 : widths.get(item);
    }

    private int middle(int layer, int item) {
        return x.get(layer).get(item) + width(item) / 2;
    }

    private void straighten(List<List<Integer>> order, int layer, boolean upper) {
        Integer end = null;
        for (int item : order.get(layer)) {
            List<Integer> others = neighbours(layer, item, upper);
            int want = x.get(layer).get(item);
            if (!others.isEmpty()) {
                int sum = 0;
                for (int other : others) {
                    sum += middle(upper ? layer - 1 : layer + 1, other);
                }
                want = (int) Math.floor((double) sum / others.size()) - width(item) / 2;
            }
            if (end != null && end + 4 > want) {
                want = end + 4;
            }
            x.get(layer).put(item, want);
            end = want + width(item);
        }
    }

    private void layOut(List<List<Integer>> order) {
        x = new ArrayList<>();
        for (List<Integer> row : order) {
            Map<Integer, Integer> xs = new HashMap<>();
            int next = 0;
            for (int item : row) {
                xs.put(item, next);
                next += width(item) + 4;
            }
            x.add(xs);
        }
        for (int pass = 1; pass <= 4; pass++) {
            for (int k = 0; k < order.size(); k++) {
                boolean upper = pass == 1 || pass == 3;
                straighten(order, upper ? k : order.size() - 1 - k, upper);
            }
        }
        int least = x.stream().flatMap(m -> m.values().stream()).min(Comparator.naturalOrder()).orElse(0);
        x.forEach(m -> m.replaceAll((item, v) -> v - least));
    }

    private int left(int gap, Piece p) {
        return Math.min(middle(gap, p.upper()), middle(gap + 1, p.lower()));
    }

    private int right(int gap, Piece p) {
        return Math.max(middle(gap, p.upper()), middle(gap + 1, p.lower()));
    }

    private void shareTracks() {
        track = new ArrayList<>();
        for (int gap = 0; gap < pieces.size(); gap++) {
            int here = gap;
            List<Piece> parts = new ArrayList<>();
            for (Piece p : pieces.get(gap)) {
                if (left(gap, p) != right(gap, p)) {
                    parts.add(p);
                }
            }
            parts.sort(Comparator.<Piece>comparingInt(p -> left(here, p)).thenComparingInt(Piece::a));
            Map<Integer, Integer> tracks = new HashMap<>();
            List<Piece> taken = new ArrayList<>();
            for (Piece p : parts) {
                int t = 0;
                while (!fits(gap, t, p, taken, tracks)) {
                    t++;
                }
                tracks.put(p.a(), t);
                taken.add(p);
            }
            track.add(tracks);
        }
    }

    private boolean fits(int gap, int t, Piece p, List<Piece> taken, Map<Integer, Integer> tracks) {
        for (Piece q : taken) {
            if (tracks.get(q.a()) == t && right(gap, q) >= left(gap, p)) {
                return false;
            }
        }
        return true;
    }

    private void make(List<List<Integer>> order) {
        old = order;
        layOut(order);
        shareTracks();
        told = true;
    }

    boolean draw(int rounds) {
        need(rounds >= 0 && rounds <= 4);
        List<List<Integer>> start = first();
        if (start == null) {
            return false;
        }
        make(drawn(start, rounds));
        return true;
    }

    int redraw(int rounds, int tolerance) {
        need(rounds >= 0 && rounds <= 4 && tolerance >= 0 && tolerance <= 100000);
        List<List<Integer>> start = first();
        if (start == null) {
            return -1;
        }
        List<List<Integer>> keptOrder = new ArrayList<>();
        for (int layer = 0; layer < start.size(); layer++) {
            List<Integer> row = new ArrayList<>(layer < old.size() ? old.get(layer) : List.of());
            row.retainAll(start.get(layer));
            for (int item : start.get(layer)) {
                if (!row.contains(item)) {
                    row.add(item);
                }
            }
            keptOrder.add(row);
        }
        List<List<Integer>> other = drawn(start, rounds);
        List<List<Integer>> before = old;
        make(crossings(keptOrder) > crossings(other) + tolerance ? other : keptOrder);
        int moved = 0;
        for (int id : widths.keySet()) {
            int[] then = spot(before, id);
            if (then != null && !Arrays.equals(then, spot(old, id))) {
                moved++;
            }
        }
        return moved;
    }

    private static int[] spot(List<List<Integer>> order, int id) {
        for (int layer = 0; layer < order.size(); layer++) {
            if (order.get(layer).contains(id)) {
                return new int[] {layer, order.get(layer).indexOf(id)};
            }
        }
        return null;
    }

    int at(int id, int what) {
        need(id >= 0 && id <= 15 && what >= 0 && what <= 2);
        if (!told || !widths.containsKey(id)) {
            return -1;
        }
        int layer = layerOf.get(id);
        return what == 0 ? layer : what == 1 ? old.get(layer).indexOf(id) : x.get(layer).get(id);
    }

    int reversed(int a) {
        need(a >= 0 && a <= 23);
        return !arrows.containsKey(a) ? -1 : turned().contains(a) ? 1 : 0;
    }

    int item(int layer, int place) {
        if (!told || layer < 0 || layer >= old.size() || place < 0 || place >= old.get(layer).size()) {
            return -1;
        }
        return old.get(layer).get(place);
    }

    int piece(int a, int layer, int what) {
        need(a >= 0 && a <= 23 && what >= 0 && what <= 2);
        if (told && layer >= 0 && layer < pieces.size()) {
            for (Piece p : pieces.get(layer)) {
                if (p.a() == a) {
                    return what == 0 ? middle(layer, p.upper())
                            : what == 1 ? middle(layer + 1, p.lower())
                            : track.get(layer).getOrDefault(a, -1);
                }
            }
        }
        return -1;
    }

    private int tracks(int gap) {
        return track.get(gap).values().stream().mapToInt(t -> t + 1).max().orElse(0);
    }

    int between(int layer, int what) {
        need(what >= 0 && what <= 1);
        if (!told || layer < 0 || layer >= old.size() - 1) {
            return -1;
        }
        return what == 0 ? crossings(old.get(layer), old.get(layer + 1), layer) : tracks(layer);
    }

    int count(int what) {
        if (what == 0) {
            return widths.size();
        }
        if (what == 1) {
            return arrows.size();
        }
        if (what == 2) {
            return turned().size();
        }
        if (!told) {
            return -1;
        }
        int ends = 0;
        int most = 0;
        for (int layer = 0; layer < old.size(); layer++) {
            most = Math.max(most, tracks(layer));
            for (int item : old.get(layer)) {
                ends = Math.max(ends, x.get(layer).get(item) + width(item));
            }
        }
        return switch (what) {
            case 3 -> old.size();
            case 4 -> old.stream().mapToInt(List::size).sum();
            case 5 -> crossings(old);
            case 6 -> ends;
            case 7 -> most;
            default -> -1;
        };
    }
}
