/** What the tests by hand share: one object at a time, and the answers that are due of it. */
abstract class Bench {
    /** Far outside every range; some would fall into one if bits were cut off or a sum wrapped. */
    static final int[] FAR = {
        Integer.MIN_VALUE, Integer.MIN_VALUE + 1, -65536, -256, -100, 100, 256, 65536, Integer.MAX_VALUE - 1, Integer.MAX_VALUE
    };

    final Check check = new Check();
    RouteLayout x = new RouteLayout();
    private String where = "";

    /** A new object; what is asked of it is told by this name. */
    void start(String name) {
        x = new RouteLayout();
        where = name + ": ";
    }

    void due(String what, long got, long want) {
        check.due(where + what, got, want);
    }

    void yes(String what, boolean got) {
        check.due(where + what, got ? 1 : 0, 1);
    }

    void no(String what, boolean got) {
        check.due(where + what, got ? 1 : 0, 0);
    }

    void refused(String what, Runnable call) {
        check.refused(where + what, call);
    }

    void boxes(int from, int to, int width) {
        for (int id = from; id <= to; id++) {
            x.box(id, width);
        }
    }

    void pins(int from, int to, int layer) {
        for (int id = from; id <= to; id++) {
            x.pin(id, layer);
        }
    }

    /** Arrows a, a + 1, .. from each first box of a pair to the second one. */
    void arrows(int a, int... pairs) {
        for (int k = 0; k + 1 < pairs.length; k += 2) {
            x.arrow(a + k / 2, pairs[k], pairs[k + 1]);
        }
    }

    void row(int layer, int... items) {
        for (int place = 0; place < items.length; place++) {
            due("item(" + layer + ", " + place + ")", x.item(layer, place), items[place]);
        }
        due("behind layer " + layer, x.item(layer, items.length), -1);
    }

    void spot(int id, int layer, int place, int left) {
        due("layer of " + id, x.at(id, 0), layer);
        due("place of " + id, x.at(id, 1), place);
        due("x of " + id, x.at(id, 2), left);
    }

    /** Of the piece of an arrow that begins in a layer: its ends' middles and its track. */
    void part(int a, int layer, int upper, int lower, int track) {
        int[] want = {upper, lower, track};
        for (int what = 0; what <= 2; what++) {
            due("piece(" + a + ", " + layer + ", " + what + ")", x.piece(a, layer, what), want[what]);
        }
    }

    void counts(int layers, int items, int crossings, int end, int tracks) {
        int[] want = {layers, items, crossings, end, tracks};
        for (int what = 3; what <= 7; what++) {
            due("count(" + what + ")", x.count(what), want[what - 3]);
        }
    }

    void nothingTold() {
        counts(-1, -1, -1, -1, -1);
        for (int id = 0; id < 16; id++) {
            spot(id, -1, -1, -1);
            due("item(0, " + id + ")", x.item(0, id), -1);
        }
        for (int a = 0; a < 24; a++) {
            part(a, 0, -1, -1, -1);
            due("between(" + a + ", 0)", x.between(a, 0), -1);
            due("between(" + a + ", 1)", x.between(a, 1), -1);
        }
    }
}
