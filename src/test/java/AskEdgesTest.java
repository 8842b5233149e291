/** The sentences of promises 9 to 14 that name a boundary case, each with a test of its own. */
public final class AskEdgesTest extends Bench {

    /** 0 above 1 above 2, and arrow 23 from 2 to 0, reversed, with a dummy beside 1. */
    private void startDrawn(String name) {
        start(name);
        boxes(0, 2, 4);
        arrows(21, 0, 1, 1, 2, 2, 0);
        yes("draw", x.draw(0));
    }

    private void atWhats() {
        startDrawn("9 'what 0: its layer, 1: its place, 2: its x'");
        // After the four passes 0, 1, the dummy and 2 begin at 12, 9, 17 and 9: 9 less each.
        spot(0, 0, 0, 3);
        spot(1, 1, 0, 0);
        spot(2, 2, 0, 0);
        start("9 the last box, at the far end");
        boxes(0, 15, 50);
        pins(0, 15, 8);
        yes("draw", x.draw(4));
        spot(15, 8, 15, 810);
    }

    private void atOfNone() {
        startDrawn("9 '-1 if it isn't there'");
        for (int id = 3; id < 16; id++) {
            spot(id, -1, -1, -1);
        }
        x.remove(1);
        yes("draw", x.draw(0));
        spot(1, -1, -1, -1);
        due("the others are told", x.at(2, 0) >= 0 ? 1 : 0, 1);
    }

    private void atNothingTold() {
        start("9 '-1 .. or nothing is told'");
        boxes(0, 15, 4);
        for (int id = 0; id < 16; id++) {
            spot(id, -1, -1, -1);
        }
    }

    private void atRefused() {
        startDrawn("9 'also another what'; no such box");
        refused("at(-1, 0)", () -> x.at(-1, 0));
        refused("at(16, 0)", () -> x.at(16, 0));
        refused("at(0, -1)", () -> x.at(0, -1));
        refused("at(0, 3)", () -> x.at(0, 3));
        refused("at(15, 3), a box that isn't there", () -> x.at(15, 3));
        refused("at(16, 3), both wrong", () -> x.at(16, 3));
        for (int far : FAR) {
            refused("at(" + far + ", 0)", () -> x.at(far, 0));
            refused("at(0, " + far + ")", () -> x.at(0, far));
        }
        spot(0, 0, 0, 3);
        x.box(0, 4);
        refused("at(0, 3), nothing told", () -> x.at(0, 3));
        refused("at(16, 0), nothing told", () -> x.at(16, 0));
        refused("at(-1, 2), nothing told", () -> x.at(-1, 2));
    }

    private void reversedAnswers() {
        start("10 '1 if an arrow is reversed, 0 if not; -1 if it isn't there'");
        boxes(0, 15, 1);
        for (int a = 0; a < 16; a++) {
            x.arrow(a, a, (a + 1) % 16);
        }
        for (int a = 0; a < 24; a++) {
            due("reversed(" + a + ")", x.reversed(a), a < 15 ? 0 : a == 15 ? 1 : -1);
        }
        due("reversed ones", x.count(2), 1);
        x.drop(7);
        due("the cycle is open", x.reversed(15), 0);
        due("reversed(7)", x.reversed(7), -1);
        x.arrow(23, 7, 8);
        due("the last one closes it", x.reversed(23), 1);
        due("this one doesn't now", x.reversed(15), 0);
    }

    private void reversedOnesAreNotKept() {
        start("10 'with those that are kept ahead of it'");
        boxes(0, 3, 1);
        // 2 is reversed, so 3 closes no cycle with it; 5 closes one with 4, which is kept.
        arrows(0, 0, 1, 1, 2, 2, 0, 0, 2, 2, 3, 3, 2);
        int[] want = {0, 0, 1, 0, 0, 1};
        for (int a = 0; a < want.length; a++) {
            due("reversed(" + a + ")", x.reversed(a), want[a]);
        }
        start("10 two boxes, arrows to and fro");
        boxes(0, 1, 1);
        for (int a = 0; a < 24; a++) {
            x.arrow(a, 1 - a % 2, a % 2);
        }
        for (int a = 0; a < 24; a++) {
            due("reversed(" + a + ")", x.reversed(a), a % 2);
        }
        due("reversed ones", x.count(2), 12);
    }

    private void reversedWithoutADrawing() {
        start("10 'It is told without a drawing, too'");
        boxes(0, 1, 1);
        arrows(0, 0, 1, 1, 0);
        due("nothing drawn yet", x.reversed(1), 1);
        x.pin(1, 0);
        no("draw", x.draw(0));
        due("the pins contradict", x.reversed(1), 1);
        due("not reversed", x.reversed(0), 0);
        due("reversed ones", x.count(2), 1);
    }

    private void reversedRefused() {
        startDrawn("10 no such arrow");
        refused("reversed(-1)", () -> x.reversed(-1));
        refused("reversed(24)", () -> x.reversed(24));
        for (int far : FAR) {
            refused("reversed(" + far + ")", () -> x.reversed(far));
        }
        due("reversed(23)", x.reversed(23), 1);
        due("still told", x.count(3), 3);
    }

    private void itemNames() {
        start("11 'a box's number; 100 and its arrow's number for a dummy'");
        boxes(0, 15, 1);
        x.pin(15, 2);
        x.arrow(0, 0, 15);
        x.arrow(23, 14, 15);
        yes("draw", x.draw(0));
        due("the first box", x.item(0, 0), 0);
        due("the last place of layer 0", x.item(0, 14), 14);
        row(1, 100, 123);
        row(2, 15);
    }

    private void itemOfNone() {
        startDrawn("11 '-1 if there is none'");
        row(0, 0);
        row(1, 1, 123);
        row(2, 2);
        for (int place = 0; place < 41; place++) {
            due("ahead of the first layer", x.item(-1, place), -1);
            due("behind the last layer", x.item(3, place), -1);
            due("behind the last place", x.item(1, 2 + place), -1);
            due("ahead of the first place", x.item(1, -1 - place), -1);
        }
        for (int far : FAR) {
            due("item(" + far + ", 0)", x.item(far, 0), -1);
            due("item(1, " + far + ")", x.item(1, far), -1);
            due("item(" + far + ", " + far + ")", x.item(far, far), -1);
        }
        start("11 an empty layer");
        x.box(0, 1);
        x.pin(0, 8);
        yes("draw", x.draw(0));
        for (int layer = 0; layer < 8; layer++) {
            row(layer);
        }
        row(8, 0);
        start("11 '-1 .. or nothing is told'");
        x.box(0, 1);
        due("item(0, 0)", x.item(0, 0), -1);
        due("item(-1, -1)", x.item(-1, -1), -1);
    }

    private void itemOfAnEarlierDrawing() {
        startDrawn("11 what stood in an earlier drawing is told no more");
        x.remove(2);
        yes("draw", x.draw(0));
        row(0, 0);
        row(1, 1);
        row(2);
        due("no piece", x.piece(23, 0, 0), -1);
        due("no gap", x.between(1, 0), -1);
    }

    private void pieceEnds() {
        startDrawn("12 'Of the piece of an arrow that begins in a layer'");
        part(21, 0, 5, 2, 0);
        part(22, 1, 2, 2, -1);
        part(23, 0, 5, 8, 1);
        part(23, 1, 8, 2, 0);
    }

    private void pieceOfNone() {
        startDrawn("12 '-1 if there is no such piece'");
        part(21, -1, -1, -1, -1);
        part(21, 1, -1, -1, -1);
        part(22, 0, -1, -1, -1);
        part(22, 2, -1, -1, -1);
        part(23, -1, -1, -1, -1);
        part(23, 2, -1, -1, -1);
        part(23, 3, -1, -1, -1);
        for (int layer = -1; layer < 3; layer++) {
            part(0, layer, -1, -1, -1);
            part(20, layer, -1, -1, -1);
        }
        for (int far : FAR) {
            part(23, far, -1, -1, -1);
            part(0, far, -1, -1, -1);
        }
        start("12 '-1 .. or nothing is told'");
        boxes(0, 1, 4);
        x.arrow(0, 0, 1);
        part(0, 0, -1, -1, -1);
    }

    private void pieceWithoutALevelPart() {
        start("12 'its track (-1 without a level part)'");
        x.box(0, 1);
        x.box(1, 50);
        x.arrow(0, 0, 1);
        yes("draw", x.draw(0));
        part(0, 0, 25, 25, -1);
        due("tracks", x.between(0, 1), 0);
        due("the most tracks", x.count(7), 0);
        start("12 a level part of length 1");
        boxes(0, 4, 1);
        arrows(0, 1, 2, 2, 3, 1, 4, 2, 4, 0, 3);
        yes("draw", x.draw(1));
        part(3, 1, 5, 6, 1);
    }

    private void longestArrow() {
        start("12 the longest arrow");
        boxes(0, 15, 1);
        for (int a = 0; a < 15; a++) {
            x.arrow(a, a, a + 1);
        }
        x.pin(0, 0);
        x.pin(1, 8);
        x.arrow(23, 15, 0);
        yes("draw", x.draw(0));
        due("layers", x.count(3), 23);
        for (int layer = 0; layer < 22; layer++) {
            due("piece(23, " + layer + ", 0)", x.piece(23, layer, 0) >= 0 ? 1 : 0, 1);
            due("piece(23, " + layer + ", 1)", x.piece(23, layer, 1) >= 0 ? 1 : 0, 1);
        }
        part(23, 22, -1, -1, -1);
        due("its upper end is box 0", x.piece(23, 0, 0), x.at(0, 2));
        due("its lower end is box 15", x.piece(23, 21, 1), x.at(15, 2));
    }

    private void pieceRefused() {
        startDrawn("12 no such arrow; another what");
        refused("piece(-1, 0, 0)", () -> x.piece(-1, 0, 0));
        refused("piece(24, 0, 0)", () -> x.piece(24, 0, 0));
        refused("piece(21, 0, -1)", () -> x.piece(21, 0, -1));
        refused("piece(21, 0, 3)", () -> x.piece(21, 0, 3));
        refused("piece(0, 0, 3), an arrow that isn't there", () -> x.piece(0, 0, 3));
        refused("piece(21, 9, 3), no such piece", () -> x.piece(21, 9, 3));
        for (int far : FAR) {
            refused("piece(" + far + ", 0, 0)", () -> x.piece(far, 0, 0));
            refused("piece(21, 0, " + far + ")", () -> x.piece(21, 0, far));
        }
        part(21, 0, 5, 2, 0);
        x.box(0, 4);
        refused("piece(24, 0, 0), nothing told", () -> x.piece(24, 0, 0));
        refused("piece(21, 0, 3), nothing told", () -> x.piece(21, 0, 3));
    }

    private void betweenAnswers() {
        start("13 'what 0: crossings, 1: tracks'");
        boxes(0, 4, 1);
        arrows(0, 0, 2, 0, 3, 1, 2, 1, 3, 2, 4);
        yes("draw", x.draw(0));
        due("crossings of 0 and 1", x.between(0, 0), 1);
        due("crossings of 1 and 2", x.between(1, 0), 0);
        // 0 .. 4 lie at 2, 7, 0, 5 and 0, so parts 0 .. 2, 2 .. 5, 0 .. 7 and 5 .. 7: tracks 0, 2, 1 and 0.
        due("tracks of 0 and 1", x.between(0, 1), 3);
        due("tracks of 1 and 2", x.between(1, 1), 0);
    }

    private void betweenOfNone() {
        startDrawn("13 '-1 if one isn't there'");
        for (int what = 0; what <= 1; what++) {
            due("the last two", x.between(1, what) >= 0 ? 1 : 0, 1);
            due("the last one and none", x.between(2, what), -1);
            due("none and none", x.between(3, what), -1);
            due("none and the first one", x.between(-1, what), -1);
            for (int far : FAR) {
                due("between(" + far + ", " + what + ")", x.between(far, what), -1);
            }
        }
        start("13 one layer alone");
        x.box(0, 1);
        yes("draw", x.draw(0));
        due("between(0, 0)", x.between(0, 0), -1);
        due("between(-1, 0)", x.between(-1, 0), -1);
        start("13 no layer");
        yes("draw", x.draw(0));
        due("between(0, 0)", x.between(0, 0), -1);
        due("between(-1, 1)", x.between(-1, 1), -1);
        start("13 '-1 .. or nothing is told'");
        boxes(0, 1, 1);
        x.arrow(0, 0, 1);
        due("between(0, 0)", x.between(0, 0), -1);
        due("between(0, 1)", x.between(0, 1), -1);
    }

    private void betweenRefused() {
        startDrawn("13 another what");
        refused("between(0, -1)", () -> x.between(0, -1));
        refused("between(0, 2)", () -> x.between(0, 2));
        refused("between(9, 2), where no layer is", () -> x.between(9, 2));
        for (int far : FAR) {
            refused("between(0, " + far + ")", () -> x.between(0, far));
        }
        due("still told", x.between(0, 0), 0);
        x.box(0, 4);
        refused("between(0, 2), nothing told", () -> x.between(0, 2));
    }

    private void countOfAll() {
        start("14 'what 0: boxes; 1: arrows; 2: reversed ones'");
        boxes(0, 15, 1);
        for (int a = 0; a < 24; a++) {
            x.arrow(a, a == 0 ? 1 : 0, a == 0 ? 0 : 1);
        }
        due("boxes", x.count(0), 16);
        due("arrows", x.count(1), 24);
        due("reversed ones", x.count(2), 23);
        counts(-1, -1, -1, -1, -1);
        yes("draw", x.draw(0));
        due("boxes", x.count(0), 16);
        due("arrows", x.count(1), 24);
        due("reversed ones", x.count(2), 23);
    }

    private void countNothingTold() {
        start("14 '-1 if nothing is told'");
        boxes(0, 1, 4);
        x.arrow(0, 0, 1);
        counts(-1, -1, -1, -1, -1);
        yes("draw", x.draw(0));
        counts(2, 2, 0, 4, 0);
        x.pin(1, 0);
        counts(-1, -1, -1, -1, -1);
        no("draw", x.draw(0));
        counts(-1, -1, -1, -1, -1);
        due("boxes are counted", x.count(0), 2);
        due("arrows are counted", x.count(1), 1);
    }

    private void countWithoutItems() {
        start("14 '0 without items'");
        yes("draw", x.draw(0));
        counts(0, 0, 0, 0, 0);
        boxes(0, 1, 50);
        yes("draw", x.draw(0));
        counts(1, 2, 0, 104, 0);
        x.remove(0);
        x.remove(1);
        yes("draw", x.draw(4));
        counts(0, 0, 0, 0, 0);
    }

    private void countSums() {
        start("14 'crossings in all'; 'the greatest end'; 'the most tracks between two layers'");
        boxes(0, 5, 1);
        arrows(0, 0, 2, 0, 3, 1, 2, 1, 3, 2, 4, 2, 5, 3, 4, 3, 5);
        // One crossing a gap; 0 .. 5 lie at 4, 9, 2, 7, 0 and 5, and each gap has three tracks.
        yes("draw", x.draw(0));
        counts(3, 6, 2, 10, 3);
        startDrawn("14 a dummy has an end, too");
        // The dummy begins at 8, behind all boxes; the gaps have two tracks and one.
        counts(3, 4, 0, 9, 2);
        start("14 the greatest end is not that of the last item");
        x.box(0, 50);
        x.box(1, 1);
        x.arrow(0, 0, 1);
        yes("draw", x.draw(0));
        counts(2, 2, 0, 50, 0);
    }

    private void countOfAnother() {
        startDrawn("14 '-1 for another what'");
        due("count(-1)", x.count(-1), -1);
        due("count(8)", x.count(8), -1);
        due("count(7) is one", x.count(7), 2);
        for (int far : FAR) {
            due("count(" + far + ")", x.count(far), -1);
        }
        start("14 '-1 for another what', nothing told");
        due("count(-1)", x.count(-1), -1);
        due("count(8)", x.count(8), -1);
    }

    /** 512 calls are promised, whatever they are: the last one answers as the first would. */
    private void allCalls() {
        start("'at most 512 calls'");
        for (int id = 0; id < 16; id++) {
            x.box(id, 50);
        }
        for (int a = 0; a < 24; a++) {
            x.arrow(a, a < 15 ? a : 0, a < 15 ? a + 1 : 15);
        }
        for (int k = 0; k < 235; k++) {
            x.box(15, 1 + k % 50);
            x.redraw(4, 100000);
        }
        due("the 511th", x.at(15, 0), 15);
        due("the 512th", x.count(4), 16 + 9 * 14);
    }

    public static void main(String[] args) {
        AskEdgesTest test = new AskEdgesTest();
        test.atWhats();
        test.atOfNone();
        test.atNothingTold();
        test.atRefused();
        test.reversedAnswers();
        test.reversedOnesAreNotKept();
        test.reversedWithoutADrawing();
        test.reversedRefused();
        test.itemNames();
        test.itemOfNone();
        test.itemOfAnEarlierDrawing();
        test.pieceEnds();
        test.pieceOfNone();
        test.pieceWithoutALevelPart();
        test.longestArrow();
        test.pieceRefused();
        test.betweenAnswers();
        test.betweenOfNone();
        test.betweenRefused();
        test.countOfAll();
        test.countNothingTold();
        test.countWithoutItems();
        test.countSums();
        test.countOfAnother();
        test.allCalls();
        test.check.end("AskEdgesTest");
    }
}
