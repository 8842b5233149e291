/** The sentences of promises 1 to 6 that name a boundary case, each with a test of its own. */
public final class ChangeEdgesTest extends Bench {

    /** Box 0 above box 1 by arrow 0, drawn: what is told of it, stillTold() asks. */
    private void startTold(String name) {
        start(name);
        boxes(0, 1, 4);
        x.arrow(0, 0, 1);
        yes("draw", x.draw(1));
        stillTold();
    }

    private void stillTold() {
        due("boxes", x.count(0), 2);
        due("arrows", x.count(1), 1);
        counts(2, 2, 0, 4, 0);
        spot(0, 0, 0, 0);
        spot(1, 1, 0, 0);
        part(0, 0, 2, 2, -1);
    }

    private void newObjectHasNoBoxes() {
        start("1 'No boxes'");
        for (int what = 0; what <= 2; what++) {
            due("count(" + what + ")", x.count(what), 0);
        }
        for (int id = 0; id < 16; id++) {
            int box = id;
            no("remove", x.remove(id));
            refused("pin", () -> x.pin(box, 0));
            refused("arrow from it", () -> x.arrow(0, box, (box + 1) % 16));
        }
        for (int a = 0; a < 24; a++) {
            no("drop", x.drop(a));
            due("reversed", x.reversed(a), -1);
        }
        due("boxes after all that", x.count(0), 0);
        start("1 'No boxes', drawn");
        yes("draw", x.draw(0));
        counts(0, 0, 0, 0, 0);
    }

    private void newObjectHasNoDrawing() {
        start("1 'no drawing'");
        nothingTold();
        start("1 'no drawing', so nothing stood in OLD");
        boxes(0, 15, 50);
        due("redraw", x.redraw(0, 0), 0);
        due("items", x.count(4), 16);
        start("1 a new object has nothing of another one");
        nothingTold();
        due("boxes", x.count(0), 0);
    }

    private void boxNumbers() {
        start("2 'BOXES are 0 .. 15'");
        boxes(0, 15, 3);
        due("all 16", x.count(0), 16);
        yes("draw", x.draw(0));
        due("the last one's place", x.at(15, 1), 15);
        refused("box(-1, 3)", () -> x.box(-1, 3));
        refused("box(16, 3)", () -> x.box(16, 3));
        for (int far : FAR) {
            refused("box(" + far + ", 3)", () -> x.box(far, 3));
        }
        due("boxes", x.count(0), 16);
        due("items still told", x.count(4), 16);
    }

    private void boxWidths() {
        start("2 'a WIDTH, 1 .. 50'");
        x.box(0, 1);
        x.box(1, 50);
        x.box(2, 1);
        yes("draw", x.draw(0));
        spot(1, 0, 1, 5);
        spot(2, 0, 2, 59);
        counts(1, 3, 0, 60, 0);
        refused("box(3, 0)", () -> x.box(3, 0));
        refused("box(3, 51)", () -> x.box(3, 51));
        refused("box(3, -1)", () -> x.box(3, -1));
        refused("box(-1, 0), both wrong", () -> x.box(-1, 0));
        for (int far : FAR) {
            refused("box(3, " + far + ")", () -> x.box(3, far));
        }
        due("boxes", x.count(0), 3);
        spot(3, -1, -1, -1);
    }

    private void boxRefused() {
        startTold("2 'IllegalArgumentException: there is no such box or width'");
        refused("box(1, 51)", () -> x.box(1, 51));
        refused("box(0, 0)", () -> x.box(0, 0));
        refused("box(2, 0)", () -> x.box(2, 0));
        refused("box(16, 4)", () -> x.box(16, 4));
        stillTold();
        yes("draw again, with the widths as they were", x.draw(1));
        stillTold();
    }

    private void boxWithAnotherWidth() {
        start("2 'or has another width'");
        boxes(0, 15, 2);
        x.box(0, 50);
        due("boxes", x.count(0), 16);
        yes("draw", x.draw(0));
        spot(1, 0, 1, 54);
        x.box(0, 1);
        yes("draw", x.draw(0));
        spot(1, 0, 1, 5);
        due("boxes", x.count(0), 16);
    }

    private void boxStaysPinned() {
        start("2 'then it stays where it is pinned'");
        boxes(0, 2, 2);
        x.pin(0, 0);
        x.pin(1, 8);
        arrows(0, 0, 1, 1, 2);
        x.box(0, 50);
        x.box(1, 50);
        x.box(2, 50);
        due("its arrows stay", x.count(1), 2);
        yes("draw", x.draw(0));
        due("layer of 0", x.at(0, 0), 0);
        due("layer of 1", x.at(1, 0), 8);
        due("layer of 2", x.at(2, 0), 9);
        x.arrow(2, 2, 0);
        x.drop(0);
        x.drop(1);
        x.box(0, 1);
        no("0 is pinned to layer 0 still, so not behind 2", x.draw(0));
    }

    private void removeTakesAllArrows() {
        start("3 'A box goes, with all its arrows'");
        boxes(0, 2, 2);
        for (int a = 0; a < 24; a++) {
            x.arrow(a, a % 3, (a + 1) % 3);
        }
        due("all 24", x.count(1), 24);
        yes("remove(1)", x.remove(1));
        due("boxes", x.count(0), 2);
        due("those between 2 and 0", x.count(1), 8);
        for (int a = 0; a < 24; a++) {
            due("reversed(" + a + ")", x.reversed(a), a % 3 == 2 ? 0 : -1);
        }
        yes("remove(0)", x.remove(0));
        due("arrows", x.count(1), 0);
        yes("remove(2)", x.remove(2));
        due("boxes", x.count(0), 0);
        yes("draw", x.draw(0));
        counts(0, 0, 0, 0, 0);
    }

    private void removeTakesThePin() {
        start("3 'A box goes': put again, it is another one");
        boxes(0, 15, 2);
        x.pin(15, 8);
        x.arrow(0, 0, 15);
        yes("remove(15)", x.remove(15));
        x.box(15, 2);
        due("boxes", x.count(0), 16);
        due("arrows", x.count(1), 0);
        yes("draw", x.draw(0));
        due("its layer", x.at(15, 0), 0);
        due("layers", x.count(3), 1);
        x.arrow(0, 0, 15);
        yes("it isn't pinned to layer 0 either", x.draw(0));
        due("its layer", x.at(15, 0), 1);
    }

    private void removeOfNone() {
        startTold("3 'false if it isn't there'");
        for (int id = 2; id < 16; id++) {
            no("remove(" + id + ")", x.remove(id));
        }
        stillTold();
        yes("remove(1)", x.remove(1));
        no("remove(1) again", x.remove(1));
        yes("draw", x.draw(0));
        no("remove(1) once more", x.remove(1));
        counts(1, 1, 0, 4, 0);
    }

    private void removeRefused() {
        startTold("3 no such box");
        refused("remove(-1)", () -> x.remove(-1));
        refused("remove(16)", () -> x.remove(16));
        for (int far : FAR) {
            refused("remove(" + far + ")", () -> x.remove(far));
        }
        stillTold();
    }

    private void arrowNumbers() {
        start("4 'ARROWS are 0 .. 23'");
        boxes(0, 1, 4);
        for (int a = 0; a < 24; a++) {
            x.arrow(a, 0, 1);
            due("arrows", x.count(1), a + 1);
        }
        yes("draw", x.draw(1));
        refused("arrow(-1, 0, 1)", () -> x.arrow(-1, 0, 1));
        refused("arrow(24, 0, 1)", () -> x.arrow(24, 0, 1));
        for (int far : FAR) {
            refused("arrow(" + far + ", 0, 1)", () -> x.arrow(far, 0, 1));
        }
        due("arrows", x.count(1), 24);
        due("still told", x.count(3), 2);
    }

    private void arrowInPlaceOfAnother() {
        start("4 'in place of what was there'");
        boxes(0, 3, 4);
        for (int a = 0; a < 24; a++) {
            x.arrow(a, 0, 1);
        }
        x.arrow(0, 1, 0);
        due("arrows", x.count(1), 24);
        due("the new one is taken first", x.reversed(0), 0);
        due("the others close a cycle with it", x.count(2), 23);
        for (int a = 0; a < 23; a++) {
            x.drop(a);
        }
        x.arrow(23, 2, 3);
        due("arrows", x.count(1), 1);
        yes("draw", x.draw(0));
        due("what was there has gone", x.at(1, 0), 0);
        due("the new one is there", x.at(3, 0), 1);
        x.arrow(23, 2, 3);
        due("the same again", x.count(1), 1);
        nothingTold();
    }

    private void arrowWithoutABox() {
        startTold("4 'also if a box isn't there'");
        for (int id = 2; id < 16; id++) {
            int none = id;
            refused("from " + id, () -> x.arrow(0, none, 1));
            refused("to " + id, () -> x.arrow(1, 0, none));
        }
        refused("both", () -> x.arrow(1, 2, 3));
        refused("from -1", () -> x.arrow(0, -1, 1));
        refused("to -1", () -> x.arrow(0, 0, -1));
        refused("from 16", () -> x.arrow(0, 16, 1));
        refused("to 16", () -> x.arrow(0, 0, 16));
        for (int far : FAR) {
            refused("from " + far, () -> x.arrow(0, far, 1));
            refused("to " + far, () -> x.arrow(0, 0, far));
        }
        stillTold();
        yes("remove(1)", x.remove(1));
        refused("to a box that has gone", () -> x.arrow(0, 0, 1));
        refused("from a box that has gone", () -> x.arrow(0, 1, 0));
        due("arrows", x.count(1), 0);
    }

    private void arrowOfOneBox() {
        startTold("4 'or both are one'");
        refused("a new arrow", () -> x.arrow(1, 0, 0));
        refused("in place of one", () -> x.arrow(0, 1, 1));
        refused("of a box that isn't there", () -> x.arrow(0, 9, 9));
        refused("of no box", () -> x.arrow(0, -1, -1));
        stillTold();
        due("arrow 0 is as it was", x.reversed(0), 0);
        due("arrow 1 isn't there", x.reversed(1), -1);
    }

    private void dropOfNone() {
        startTold("5 'false if it isn't there'");
        for (int a = 1; a < 24; a++) {
            no("drop(" + a + ")", x.drop(a));
        }
        stillTold();
        yes("drop(0)", x.drop(0));
        no("drop(0) again", x.drop(0));
        due("arrows", x.count(1), 0);
        yes("draw", x.draw(0));
        counts(1, 2, 0, 12, 0);
        no("drop(0) once more", x.drop(0));
        counts(1, 2, 0, 12, 0);
        start("5 an arrow that has gone with its box");
        boxes(0, 1, 4);
        x.arrow(23, 0, 1);
        x.remove(0);
        no("drop(23)", x.drop(23));
    }

    private void dropOfAll() {
        start("5 'An arrow goes'");
        boxes(0, 1, 4);
        for (int a = 0; a < 24; a++) {
            x.arrow(a, a % 2, 1 - a % 2);
        }
        for (int a = 0; a < 24; a++) {
            due("reversed ones", x.count(2), 12 - (a + a % 2) / 2);
            yes("drop(" + a + ")", x.drop(a));
            due("arrows", x.count(1), 23 - a);
            due("reversed(" + a + ")", x.reversed(a), -1);
        }
    }

    private void dropRefused() {
        startTold("5 no such arrow");
        refused("drop(-1)", () -> x.drop(-1));
        refused("drop(24)", () -> x.drop(24));
        for (int far : FAR) {
            refused("drop(" + far + ")", () -> x.drop(far));
        }
        stillTold();
    }

    private void pinLayers() {
        start("6 'PINNED to a layer, 0 .. 8'");
        boxes(0, 8, 2);
        for (int id = 0; id <= 8; id++) {
            x.pin(id, id);
        }
        yes("draw", x.draw(0));
        for (int id = 0; id <= 8; id++) {
            due("layer of " + id, x.at(id, 0), id);
        }
        refused("pin(0, 9)", () -> x.pin(0, 9));
        refused("pin(0, -2)", () -> x.pin(0, -2));
        for (int far : FAR) {
            refused("pin(0, " + far + ")", () -> x.pin(0, far));
        }
        due("still told", x.count(3), 9);
        yes("draw again, with the pins as they were", x.draw(0));
        due("layer of 0", x.at(0, 0), 0);
        x.pin(0, 3);
        yes("draw", x.draw(0));
        due("the later pin counts", x.at(0, 0), 3);
    }

    private void pinNoMore() {
        start("6 'or (-1) not pinned any more'");
        boxes(0, 1, 2);
        x.arrow(0, 0, 1);
        x.pin(1, 8);
        x.pin(1, -1);
        yes("draw", x.draw(0));
        due("its layer", x.at(1, 0), 1);
        x.pin(1, 0);
        no("pinned to 0", x.draw(0));
        x.pin(1, -1);
        x.pin(1, -1);
        x.pin(0, -1);
        yes("pinned to none, not to a layer -1", x.draw(0));
        due("layers", x.count(3), 2);
        due("its layer", x.at(1, 0), 1);
    }

    private void pinOfNone() {
        startTold("6 'also if it isn't there'");
        for (int id = 2; id < 16; id++) {
            int none = id;
            refused("pin(" + id + ", 0)", () -> x.pin(none, 0));
            refused("pin(" + id + ", -1)", () -> x.pin(none, -1));
        }
        refused("pin(-1, 0)", () -> x.pin(-1, 0));
        refused("pin(16, 8)", () -> x.pin(16, 8));
        refused("pin(16, 9), both wrong", () -> x.pin(16, 9));
        for (int far : FAR) {
            refused("pin(" + far + ", 1)", () -> x.pin(far, 1));
        }
        stillTold();
        x.box(2, 4);
        yes("draw", x.draw(0));
        due("no pin was kept for it", x.at(2, 0), 0);
        x.remove(2);
        refused("pin(2, 1)", () -> x.pin(2, 1));
    }

    private void ended(String by, Runnable call) {
        startTold("'until .. are called': " + by);
        call.run();
        nothingTold();
        due("redraw", x.redraw(1, 100000) < 0 ? 1 : 0, 0);
        due("told again", x.count(3) < 0 ? 1 : 0, 0);
    }

    private void toldUntil() {
        ended("box(), a new one", () -> x.box(2, 4));
        ended("box(), the same width", () -> x.box(0, 4));
        ended("arrow(), a new one", () -> x.arrow(1, 0, 1));
        ended("arrow(), the same one", () -> x.arrow(0, 0, 1));
        ended("pin()", () -> x.pin(1, 3));
        ended("pin() where it stands", () -> x.pin(1, 1));
        ended("pin() of -1", () -> x.pin(1, -1));
        ended("remove() that answers true", () -> yes("remove", x.remove(1)));
        ended("drop() that answers true", () -> yes("drop", x.drop(0)));
    }

    private void toldStillAfterAsking() {
        startTold("what is told is told as often as it is asked");
        for (int k = 0; k < 12; k++) {
            stillTold();
            due("reversed", x.reversed(0), 0);
            due("item", x.item(1, 0), 1);
            due("between", x.between(0, 0), 0);
            no("remove", x.remove(15));
            no("drop", x.drop(23));
        }
    }

    public static void main(String[] args) {
        ChangeEdgesTest test = new ChangeEdgesTest();
        test.newObjectHasNoBoxes();
        test.newObjectHasNoDrawing();
        test.boxNumbers();
        test.boxWidths();
        test.boxRefused();
        test.boxWithAnotherWidth();
        test.boxStaysPinned();
        test.removeTakesAllArrows();
        test.removeTakesThePin();
        test.removeOfNone();
        test.removeRefused();
        test.arrowNumbers();
        test.arrowInPlaceOfAnother();
        test.arrowWithoutABox();
        test.arrowOfOneBox();
        test.dropOfNone();
        test.dropOfAll();
        test.dropRefused();
        test.pinLayers();
        test.pinNoMore();
        test.pinOfNone();
        test.toldUntil();
        test.toldStillAfterAsking();
        test.check.end("ChangeEdgesTest");
    }
}
