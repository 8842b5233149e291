/** Each promise of the document with answers worked out by hand. */
public final class PromiseTest extends Bench {
    private void newObject() {
        start("1 new");
        due("boxes", x.count(0), 0);
        due("arrows", x.count(1), 0);
        due("reversed ones", x.count(2), 0);
        nothingTold();
        for (int a = 0; a < 24; a++) {
            due("reversed", x.reversed(a), -1);
            no("drop", x.drop(a));
        }
        no("remove", x.remove(15));
        yes("draw", x.draw(4));
        counts(0, 0, 0, 0, 0);
        due("redraw", x.redraw(4, 0), 0);
        due("between without layers", x.between(0, 0), -1);
        start("1 redraw first");
        due("redraw", x.redraw(0, 0), 0);
        counts(0, 0, 0, 0, 0);
        start("1 redraw first with boxes");
        boxes(0, 3, 2);
        arrows(0, 0, 3, 1, 2);
        due("nothing stood in OLD", x.redraw(0, 1), 0);
        row(1, 2, 3);
        due("nothing moves", x.redraw(0, 1), 0);
        due("drawn instead", x.redraw(0, 0), 2);
        row(1, 3, 2);
    }

    private void box() {
        start("2 box");
        x.box(0, 1);
        x.box(15, 50);
        due("boxes", x.count(0), 2);
        refused("box(-1, 5)", () -> x.box(-1, 5));
        refused("box(16, 5)", () -> x.box(16, 5));
        refused("box(1, 0)", () -> x.box(1, 0));
        refused("box(1, 51)", () -> x.box(1, 51));
        refused("box(1, -1)", () -> x.box(1, -1));
        for (int far : FAR) {
            refused("far box", () -> x.box(far, 1));
            refused("far width", () -> x.box(1, far));
        }
        due("boxes after refusals", x.count(0), 2);
        yes("draw", x.draw(1));
        spot(0, 0, 0, 0);
        spot(15, 0, 1, 5);
        counts(1, 2, 0, 55, 0);
        refused("box(0, 51)", () -> x.box(0, 51));
        spot(15, 0, 1, 5);
        x.box(0, 1);
        nothingTold();

        start("2 box again");
        x.box(3, 5);
        x.box(4, 5);
        x.pin(3, 2);
        x.arrow(7, 3, 4);
        x.box(3, 9);
        due("boxes", x.count(0), 2);
        due("arrows", x.count(1), 1);
        yes("draw", x.draw(0));
        spot(3, 2, 0, 0);
        due("below its pin", x.at(4, 0), 3);
        due("its new width", x.count(6), 9);
    }

    private void remove() {
        start("3 remove");
        boxes(0, 2, 4);
        arrows(0, 0, 1, 1, 2, 2, 0, 0, 2);
        x.pin(1, 1);
        due("reversed ones", x.count(2), 1);
        yes("draw", x.draw(0));
        no("remove(5)", x.remove(5));
        due("still told", x.count(3), 3);
        refused("remove(-1)", () -> x.remove(-1));
        refused("remove(16)", () -> x.remove(16));
        for (int far : FAR) {
            refused("far box", () -> x.remove(far));
        }
        due("still told after refusals", x.count(3), 3);
        yes("remove(1)", x.remove(1));
        nothingTold();
        no("remove(1) again", x.remove(1));
        due("boxes", x.count(0), 2);
        due("arrows", x.count(1), 2);
        due("its arrow 0", x.reversed(0), -1);
        due("its arrow 1", x.reversed(1), -1);
        due("arrow 2 is kept now", x.reversed(2), 0);
        due("arrow 3 closes a cycle now", x.reversed(3), 1);
        x.box(1, 4);
        yes("draw", x.draw(0));
        due("its pin has gone", x.at(1, 0), 0);
        due("its arrows have gone", x.count(1), 2);
    }

    private void arrow() {
        start("4 arrow");
        boxes(0, 3, 4);
        refused("arrow(-1, 0, 1)", () -> x.arrow(-1, 0, 1));
        refused("arrow(24, 0, 1)", () -> x.arrow(24, 0, 1));
        refused("arrow(0, 1, 1)", () -> x.arrow(0, 1, 1));
        refused("arrow(0, 4, 1)", () -> x.arrow(0, 4, 1));
        refused("arrow(0, 1, 4)", () -> x.arrow(0, 1, 4));
        refused("arrow(0, 16, 1)", () -> x.arrow(0, 16, 1));
        refused("arrow(0, 1, -1)", () -> x.arrow(0, 1, -1));
        for (int far : FAR) {
            refused("far arrow", () -> x.arrow(far, 0, 1));
            refused("far from", () -> x.arrow(0, far, 1));
            refused("far to", () -> x.arrow(0, 1, far));
        }
        due("arrows after refusals", x.count(1), 0);
        x.arrow(0, 0, 1);
        x.arrow(23, 2, 3);
        due("arrows", x.count(1), 2);
        yes("draw", x.draw(0));
        due("3 behind 2", x.at(3, 0), 1);
        refused("arrow(23, 2, 2)", () -> x.arrow(23, 2, 2));
        due("still told", x.at(3, 0), 1);
        x.arrow(23, 3, 2);
        due("in place of what was there", x.count(1), 2);
        nothingTold();
        yes("draw", x.draw(0));
        due("2 behind 3", x.at(2, 0), 1);
        due("3 above", x.at(3, 0), 0);
    }

    private void drop() {
        start("5 drop");
        boxes(0, 1, 4);
        arrows(22, 0, 1, 1, 0);
        due("reversed(23)", x.reversed(23), 1);
        yes("draw", x.draw(0));
        no("drop(0)", x.drop(0));
        refused("drop(-1)", () -> x.drop(-1));
        refused("drop(24)", () -> x.drop(24));
        for (int far : FAR) {
            refused("far arrow", () -> x.drop(far));
        }
        due("still told", x.at(1, 0), 1);
        yes("drop(22)", x.drop(22));
        nothingTold();
        no("drop(22) again", x.drop(22));
        due("arrows", x.count(1), 1);
        due("reversed(22)", x.reversed(22), -1);
        due("reversed(23) now", x.reversed(23), 0);
        yes("draw", x.draw(0));
        due("0 behind 1", x.at(0, 0), 1);
    }

    private void pin() {
        start("6 pin");
        boxes(0, 2, 4);
        refused("pin(3, 0)", () -> x.pin(3, 0));
        refused("pin(3, -1)", () -> x.pin(3, -1));
        refused("pin(-1, 0)", () -> x.pin(-1, 0));
        refused("pin(16, 0)", () -> x.pin(16, 0));
        refused("pin(0, -2)", () -> x.pin(0, -2));
        refused("pin(0, 9)", () -> x.pin(0, 9));
        for (int far : FAR) {
            refused("far box", () -> x.pin(far, 1));
            refused("far layer", () -> x.pin(0, far));
        }
        yes("draw", x.draw(0));
        refused("pin(0, 9)", () -> x.pin(0, 9));
        due("still told", x.count(3), 1);
        x.pin(0, 8);
        nothingTold();
        x.arrow(0, 0, 1);
        yes("draw", x.draw(0));
        due("0 in its layer", x.at(0, 0), 8);
        due("1 behind it", x.at(1, 0), 9);
        due("2 above", x.at(2, 0), 0);
        due("layers", x.count(3), 10);
        x.pin(0, 0);
        yes("draw", x.draw(0));
        due("1 behind 0", x.at(1, 0), 1);
        x.pin(0, 4);
        x.pin(0, -1);
        yes("draw", x.draw(0));
        due("not pinned any more", x.at(0, 0), 0);
        x.pin(1, 3);
        yes("a longer arrow", x.draw(0));
        row(2, 100);
        x.pin(1, 0);
        no("the pins contradict", x.draw(0));
        x.pin(1, 1);
        yes("just behind", x.draw(0));
    }

    private void drawLayers() {
        start("7 layers");
        boxes(0, 4, 2);
        arrows(0, 0, 1, 1, 2, 0, 2, 2, 3, 3, 0, 4, 3);
        yes("draw", x.draw(0));
        int[] layers = {0, 1, 2, 3, 0};
        for (int id = 0; id < 5; id++) {
            due("layer of " + id, x.at(id, 0), layers[id]);
        }
        row(0, 0, 4);
        row(1, 1, 102, 104, 105);
        row(2, 2, 104, 105);
        row(3, 3);
        x.pin(2, 0);
        no("a pin at a layer with an upper end", x.draw(0));
        nothingTold();
        x.pin(2, 1);
        no("a pin in the same layer as an upper end", x.draw(0));
        x.pin(2, -1);
        yes("draw", x.draw(0));
        for (int far : FAR) {
            refused("far rounds", () -> x.draw(far));
        }
        refused("draw(-1)", () -> x.draw(-1));
        refused("draw(5)", () -> x.draw(5));
        due("still told", x.count(3), 4);

        start("7 empty layers");
        x.box(6, 3);
        x.pin(6, 5);
        yes("draw", x.draw(2));
        counts(6, 1, 0, 3, 0);
        row(0);
        row(5, 6);
        due("between empty layers", x.between(0, 0), 0);
        due("tracks between empty layers", x.between(4, 1), 0);
        due("behind the last layer", x.between(5, 0), -1);

        start("7 most layers");
        boxes(0, 15, 50);
        for (int id = 0; id < 15; id++) {
            x.arrow(id, id, id + 1);
        }
        x.pin(1, 8);
        for (int a = 15; a < 24; a++) {
            x.arrow(a, 0, 15);
        }
        yes("draw", x.draw(4));
        due("layers", x.count(3), 23);
        due("items", x.count(4), 16 + 7 + 9 * 21);
        x.pin(0, 8);
        x.pin(1, -1);
        yes("draw", x.draw(4));
        due("layers", x.count(3), 24);
        due("last layer", x.at(15, 0), 23);
        due("items", x.count(4), 16 + 9 * 14);
        due("no crossings", x.count(5), 0);
    }

    private void drawOrders() {
        start("7 at last");
        boxes(0, 4, 4);
        x.pin(2, 1);
        arrows(0, 0, 4, 1, 3);
        yes("draw", x.draw(0));
        row(1, 2, 4, 3);
        due("crossings", x.count(5), 0);

        start("7 at last, the first of equals");
        boxes(0, 3, 4);
        arrows(0, 0, 2, 0, 3, 1, 2, 1, 3);
        yes("draw", x.draw(4));
        row(1, 2, 3);
        due("crossings", x.count(5), 1);

        start("7 six items at last, seven not");
        boxes(0, 11, 4);
        arrows(0, 0, 11, 1, 10, 2, 9, 3, 8, 4, 7, 5, 6);
        yes("draw", x.draw(0));
        row(1, 11, 10, 9, 8, 7, 6);
        boxes(12, 13, 4);
        x.arrow(6, 12, 13);
        yes("draw", x.draw(0));
        row(1, 6, 7, 8, 9, 10, 11, 13);
        due("crossings", x.count(5), 15);
        yes("draw", x.draw(1));
        row(1, 11, 10, 9, 8, 7, 6, 13);
        due("crossings", x.count(5), 0);

        start("7 items without neighbours stay");
        boxes(0, 12, 4);
        x.pin(9, 1);
        arrows(0, 0, 12, 1, 11, 2, 10, 3, 8, 4, 7, 5, 6);
        yes("draw", x.draw(1));
        row(1, 12, 11, 10, 9, 8, 7, 6);

        start("7 the lower median of two");
        boxes(0, 9, 4);
        for (int id = 5; id <= 9; id++) {
            x.pin(id, 1);
        }
        arrows(0, 1, 3, 0, 4, 2, 4);
        yes("draw", x.draw(1));
        row(0, 0, 2, 1);
        row(1, 4, 3, 5, 6, 7, 8, 9);
        due("crossings", x.count(5), 0);

        start("7 two arrows between the same boxes");
        boxes(0, 3, 4);
        arrows(0, 0, 3, 0, 3, 1, 2, 2, 1);
        yes("draw without rounds", x.draw(0));
        due("reversed ones", x.count(2), 1);
        row(1, 3, 2);
        due("pieces from one item do not cross", x.between(0, 0), 0);
    }

    private void drawPlaces() {
        start("7 x below 0");
        x.box(0, 3);
        x.box(1, 50);
        x.arrow(0, 0, 1);
        yes("draw", x.draw(0));
        spot(0, 0, 0, 24);
        spot(1, 1, 0, 0);
        counts(2, 2, 0, 50, 0);

        start("7 an item without neighbours keeps the x that it had at first");
        x.box(0, 2);
        x.box(1, 50);
        x.box(2, 2);
        x.arrow(0, 0, 1);
        x.pin(2, 1);
        yes("draw", x.draw(0));
        spot(0, 0, 0, 24);
        spot(1, 1, 0, 0);
        spot(2, 1, 1, 78);

        start("7 four passes");
        boxes(0, 2, 1);
        arrows(0, 0, 1, 0, 2);
        yes("draw", x.draw(0));
        spot(0, 0, 0, 2);
        spot(1, 1, 0, 0);
        spot(2, 1, 1, 5);
        counts(2, 3, 0, 6, 2);
        due("track of the left part", x.piece(0, 0, 2), 0);
        due("track of the part that begins where it ends", x.piece(1, 0, 2), 1);
    }

    private void redraw() {
        start("8 redraw");
        boxes(0, 3, 4);
        arrows(0, 0, 2, 1, 3);
        yes("draw", x.draw(1));
        arrows(0, 0, 3, 1, 2);
        due("within the tolerance", x.redraw(1, 1), 0);
        due("crossings", x.count(5), 1);
        row(1, 2, 3);
        due("above the tolerance", x.redraw(0, 0), 2);
        due("crossings", x.count(5), 0);
        row(1, 3, 2);
        due("kept as cheap", x.redraw(0, 100000), 0);
        refused("redraw(-1, 0)", () -> x.redraw(-1, 0));
        refused("redraw(5, 0)", () -> x.redraw(5, 0));
        refused("redraw(0, -1)", () -> x.redraw(0, -1));
        refused("redraw(0, 100001)", () -> x.redraw(0, 100001));
        for (int far : FAR) {
            refused("far rounds", () -> x.redraw(far, 0));
        }
        refused("far tolerance", () -> x.redraw(0, Integer.MIN_VALUE));
        refused("far tolerance", () -> x.redraw(0, Integer.MAX_VALUE));
        row(1, 3, 2);
        x.pin(3, 0);
        due("the pins contradict", x.redraw(1, 0), -1);
        nothingTold();
        no("so they do when drawn", x.draw(1));
        x.pin(3, -1);
        due("OLD has stayed", x.redraw(0, 0), 0);
        row(1, 3, 2);
        x.pin(3, 2);
        due("a box in another layer, and one moves up", x.redraw(0, 1), 2);
        row(1, 2, 100);
        row(2, 3);

        start("8 boxes that go and come");
        boxes(0, 1, 4);
        yes("draw", x.draw(0));
        yes("remove(0)", x.remove(0));
        due("1 moves to place 0", x.redraw(0, 0), 1);
        x.box(0, 4);
        due("0 did not stand in OLD", x.redraw(0, 0), 0);
        row(0, 1, 0);
        yes("remove(0)", x.remove(0));
        x.box(0, 4);
        due("a box is the same by its number", x.redraw(0, 0), 0);
        row(0, 1, 0);
        yes("draw", x.draw(0));
        row(0, 0, 1);

        start("8 dummies are the same by their arrows' numbers");
        boxes(0, 2, 4);
        arrows(0, 0, 1, 1, 2);
        x.arrow(5, 0, 2);
        yes("draw", x.draw(0));
        row(1, 1, 105);
        x.box(3, 4);
        x.arrow(2, 0, 3);
        due("redraw", x.redraw(0, 100), 0);
        row(1, 1, 105, 3);
        x.box(4, 4);
        x.arrow(6, 3, 4);
        x.arrow(5, 0, 4);
        due("redraw", x.redraw(0, 100), 0);
        row(1, 1, 105, 3);
        row(2, 2, 4);
    }

    private void at() {
        start("9 at");
        boxes(0, 1, 7);
        yes("draw", x.draw(0));
        spot(0, 0, 0, 0);
        spot(1, 0, 1, 11);
        due("a box that isn't there", x.at(15, 2), -1);
        refused("at(-1, 0)", () -> x.at(-1, 0));
        refused("at(16, 0)", () -> x.at(16, 0));
        refused("at(0, -1)", () -> x.at(0, -1));
        refused("at(0, 3)", () -> x.at(0, 3));
        refused("at(15, 3) of none", () -> x.at(15, 3));
        for (int far : FAR) {
            refused("far box", () -> x.at(far, 0));
            refused("far what", () -> x.at(0, far));
        }
        x.box(0, 7);
        spot(0, -1, -1, -1);
        refused("at(0, 3), nothing told", () -> x.at(0, 3));
    }

    private void reversed() {
        start("10 reversed");
        boxes(0, 3, 1);
        // 2 closes a cycle with 0 and 1; 3 only with 2, which isn't kept; 5 closes one with 0.
        arrows(0, 0, 1, 1, 2, 2, 0, 0, 2, 3, 0, 1, 0);
        int[] want = {0, 0, 1, 0, 0, 1};
        for (int a = 0; a < want.length; a++) {
            due("reversed(" + a + ")", x.reversed(a), want[a]);
        }
        due("one that isn't there", x.reversed(23), -1);
        due("reversed ones", x.count(2), 2);
        refused("reversed(-1)", () -> x.reversed(-1));
        refused("reversed(24)", () -> x.reversed(24));
        for (int far : FAR) {
            refused("far arrow", () -> x.reversed(far));
        }
        yes("drop(0)", x.drop(0));
        due("2 closes no cycle now", x.reversed(2), 0);
        due("3 closes one with 2", x.reversed(3), 1);
        due("5 closes one with 1 and 2", x.reversed(5), 0);
    }

    private void item() {
        start("11 item");
        boxes(0, 2, 4);
        arrows(21, 0, 1, 1, 2, 0, 2);
        due("nothing told", x.item(0, 0), -1);
        yes("draw", x.draw(0));
        row(0, 0);
        row(1, 1, 123);
        row(2, 2);
        due("no place", x.item(0, -1), -1);
        due("no layer", x.item(-1, 0), -1);
        due("no layer", x.item(3, 0), -1);
        for (int far : FAR) {
            due("far layer", x.item(far, 0), -1);
            due("far place", x.item(1, far), -1);
        }
        due("not the next layer's", x.item(0, 40), -1);
    }

    private void piece() {
        start("12 piece");
        boxes(0, 2, 4);
        arrows(21, 0, 1, 1, 2, 2, 0);
        yes("draw", x.draw(0));
        due("reversed(23)", x.reversed(23), 1);
        // After the four passes 0, 1, the dummy and 2 begin at 12, 9, 17 and 9: 9 less each.
        int[][] want = {
            {21, 0, 5, 2, 0}, {22, 1, 2, 2, -1}, {23, 0, 5, 8, 1}, {23, 1, 8, 2, 0}
        };
        for (int[] w : want) {
            for (int what = 0; what < 3; what++) {
                due("piece(" + w[0] + ", " + w[1] + ", " + what + ")", x.piece(w[0], w[1], what), w[2 + what]);
            }
        }
        for (int what = 0; what < 3; what++) {
            due("behind its end", x.piece(21, 1, what), -1);
            due("ahead of its begin", x.piece(22, 0, what), -1);
            due("where it ends", x.piece(23, 2, what), -1);
            due("no arrow there", x.piece(0, 0, what), -1);
            due("no layer", x.piece(23, -1, what), -1);
            for (int far : FAR) {
                due("far layer", x.piece(23, far, what), -1);
            }
        }
        refused("piece(-1, 0, 0)", () -> x.piece(-1, 0, 0));
        refused("piece(24, 0, 0)", () -> x.piece(24, 0, 0));
        refused("piece(21, 0, -1)", () -> x.piece(21, 0, -1));
        refused("piece(21, 0, 3)", () -> x.piece(21, 0, 3));
        for (int far : FAR) {
            refused("far arrow", () -> x.piece(far, 0, 0));
            refused("far what", () -> x.piece(21, 0, far));
        }
        start("12 without a level part");
        boxes(0, 1, 4);
        x.arrow(0, 0, 1);
        yes("draw", x.draw(0));
        due("upper middle", x.piece(0, 0, 0), 2);
        due("lower middle", x.piece(0, 0, 1), 2);
        due("track", x.piece(0, 0, 2), -1);
    }

    private void between() {
        start("13 between");
        boxes(0, 3, 4);
        arrows(0, 0, 2, 0, 3, 1, 2, 1, 3);
        due("nothing told", x.between(0, 0), -1);
        yes("draw", x.draw(0));
        due("crossings", x.between(0, 0), 1);
        due("tracks", x.between(0, 1), x.count(7));
        due("behind the last", x.between(1, 0), -1);
        due("ahead of the first", x.between(-1, 1), -1);
        for (int far : FAR) {
            due("far layer", x.between(far, 0), -1);
            refused("far what", () -> x.between(0, far));
        }
        refused("between(0, -1)", () -> x.between(0, -1));
        refused("between(0, 2)", () -> x.between(0, 2));
        refused("between(9, 2), no such layer", () -> x.between(9, 2));
    }

    private void count() {
        start("14 count");
        boxes(0, 3, 1);
        arrows(0, 0, 2, 0, 3, 2, 0, 1, 3);
        due("boxes", x.count(0), 4);
        due("arrows", x.count(1), 4);
        due("reversed ones", x.count(2), 1);
        counts(-1, -1, -1, -1, -1);
        due("count(-1)", x.count(-1), -1);
        due("count(8)", x.count(8), -1);
        yes("draw", x.draw(0));
        due("layers", x.count(3), 2);
        due("items", x.count(4), 4);
        due("crossings", x.count(5), 0);
        due("tracks", x.count(7), 3);
        due("count(-1)", x.count(-1), -1);
        due("count(8)", x.count(8), -1);
        for (int far : FAR) {
            due("far what", x.count(far), -1);
        }
    }

    public static void main(String[] args) {
        PromiseTest test = new PromiseTest();
        test.newObject();
        test.box();
        test.remove();
        test.arrow();
        test.drop();
        test.pin();
        test.drawLayers();
        test.drawOrders();
        test.drawPlaces();
        test.redraw();
        test.at();
        test.reversed();
        test.item();
        test.piece();
        test.between();
        test.count();
        test.check.end("PromiseTest");
    }
}
