/** The sentences on drawing (promise 7 and its terms) that name a boundary case, one by one. */
public final class DrawEdgesTest extends Bench {

    private void rounds() {
        start("7 'with 0 .. 4 rounds'");
        boxes(0, 1, 4);
        x.arrow(0, 0, 1);
        for (int rounds = 0; rounds <= 4; rounds++) {
            yes("draw(" + rounds + ")", x.draw(rounds));
        }
        refused("draw(-1)", () -> x.draw(-1));
        refused("draw(5)", () -> x.draw(5));
        for (int far : FAR) {
            refused("draw(" + far + ")", () -> x.draw(far));
        }
        counts(2, 2, 0, 4, 0);
        x.box(0, 4);
        refused("draw(5), nothing told", () -> x.draw(5));
        nothingTold();
    }

    /** Item 4 has no lower neighbour and stays in steps by them, so each round moves it by one. */
    private void eachRound() {
        int[][] rows = {
            {1, 4, 6, 101, 102, 104, 108}, {108, 4, 1, 104, 101, 6, 102}, {108, 1, 4, 104, 101, 6, 102},
            {108, 1, 104, 4, 101, 6, 102}, {108, 1, 104, 101, 4, 6, 102}
        };
        int[] crossings = {11, 4, 4, 4, 3};
        start("7 'so many rounds'");
        boxes(0, 8, 1);
        arrows(0, 1, 8, 2, 7, 3, 7, 3, 6, 0, 8, 0, 1, 0, 4, 1, 7, 2, 5, 1, 5);
        for (int rounds = 0; rounds <= 4; rounds++) {
            yes("draw(" + rounds + ")", x.draw(rounds));
            row(1, rows[rounds]);
            due("crossings", x.count(5), crossings[rounds]);
        }
    }

    private void pinsContradict() {
        start("7 'if it isn't behind all those, the pins CONTRADICT'");
        boxes(0, 2, 4);
        x.arrow(0, 0, 1);
        x.pin(0, 4);
        for (int layer = 0; layer <= 8; layer++) {
            x.pin(1, layer);
            due("draw with 1 in layer " + layer, x.draw(0) ? 1 : 0, layer > 4 ? 1 : 0);
            due("layers", x.count(3), layer > 4 ? layer + 1 : -1);
            due("items", x.count(4), layer > 4 ? layer - 2 : -1);
        }
        x.arrow(1, 2, 1);
        x.pin(2, 8);
        no("behind one, not behind the other", x.draw(0));
        x.pin(2, 7);
        yes("just behind both", x.draw(0));
        start("7 a pin that a chain of boxes that aren't pinned reaches");
        boxes(0, 3, 4);
        arrows(0, 0, 1, 1, 2, 2, 3);
        x.pin(3, 2);
        no("beside the last of the chain", x.draw(0));
        x.pin(3, 3);
        yes("behind it", x.draw(0));
        start("7 'of a reversed one it is the other way round'");
        boxes(0, 1, 4);
        arrows(0, 0, 1, 1, 0);
        x.pin(0, 0);
        x.pin(1, 1);
        yes("1 behind 0, for the reversed arrow too", x.draw(0));
        x.pin(0, 2);
        no("0 behind 1", x.draw(0));
        start("7 pins without arrows contradict nothing");
        boxes(0, 15, 1);
        pins(0, 15, 8);
        yes("all in layer 8", x.draw(4));
        counts(9, 16, 0, 76, 0);
    }

    private void falseTellsNothing() {
        start("7 'then nothing is told; OLD stays'");
        boxes(0, 2, 4);
        yes("draw", x.draw(0));
        x.remove(0);
        due("redraw", x.redraw(0, 0), 2);
        x.box(0, 4);
        due("redraw", x.redraw(0, 0), 0);
        row(0, 1, 2, 0);
        x.arrow(0, 0, 1);
        x.pin(1, 0);
        no("draw", x.draw(4));
        nothingTold();
        due("boxes", x.count(0), 3);
        due("reversed(0)", x.reversed(0), 0);
        no("draw again", x.draw(0));
        x.drop(0);
        due("OLD is the one before", x.redraw(0, 0), 0);
        row(0, 1, 2, 0);
    }

    private void layers() {
        start("7 'behind the last one of the boxes'; 'without any, in layer 0'");
        boxes(0, 15, 1);
        arrows(0, 0, 1, 1, 2, 0, 3, 2, 3, 4, 3);
        yes("draw", x.draw(0));
        int[] want = {0, 1, 2, 3, 0, 0};
        for (int id = 0; id < want.length; id++) {
            due("layer of " + id, x.at(id, 0), want[id]);
        }
        start("7 the most layers: a chain of all boxes behind pin 8");
        boxes(0, 15, 1);
        for (int k = 0; k < 15; k++) {
            x.arrow(23 - k, k, k + 1);
        }
        x.pin(0, 8);
        yes("draw", x.draw(4));
        counts(24, 16, 0, 1, 0);
        for (int id = 0; id < 16; id++) {
            spot(id, 8 + id, 0, 0);
        }
        due("the last gap", x.between(22, 0), 0);
        due("behind it", x.between(23, 0), -1);
        start("7 empty layers");
        boxes(0, 1, 2);
        x.pin(1, 2);
        yes("draw", x.draw(4));
        counts(3, 2, 0, 2, 0);
        row(0, 0);
        row(1);
        row(2, 1);
        due("between a layer and an empty one", x.between(0, 0), 0);
        due("between an empty layer and the next", x.between(1, 1), 0);
    }

    private void dummies() {
        start("7 'one that isn't the next has a DUMMY .. in each layer between'");
        boxes(0, 2, 4);
        arrows(0, 0, 1, 0, 2, 1, 2);
        x.pin(2, 8);
        yes("draw", x.draw(0));
        due("items", x.count(4), 3 + 7 + 6);
        due("no dummy in the next layer", x.item(1, 0), 1);
        row(1, 1, 101);
        // 101 comes from place 1 of layer 1, so at last it stands behind 102 in all layers below.
        row(2, 102, 101);
        row(7, 102, 101);
        row(8, 2);
        start("7 the fullest layer");
        boxes(0, 15, 1);
        pins(1, 14, 1);
        x.pin(15, 2);
        for (int a = 0; a < 24; a++) {
            x.arrow(a, 0, 15);
        }
        yes("draw", x.draw(4));
        due("items", x.count(4), 40);
        for (int place = 0; place < 38; place++) {
            due("item(1, " + place + ")", x.item(1, place), place < 14 ? 1 + place : 86 + place);
        }
        due("behind the last place", x.item(1, 38), -1);
        due("crossings", x.count(5), 0);
    }

    private void firstOrders() {
        start("7 'its boxes by numbers, then its dummies by their arrows' numbers'");
        boxes(0, 15, 1);
        pins(3, 9, 1);
        x.pin(15, 2);
        arrows(20, 1, 15, 0, 15);
        x.arrow(0, 2, 15);
        yes("draw", x.draw(0));
        row(1, 3, 4, 5, 6, 7, 8, 9, 100, 120, 121);
    }

    private void medians() {
        start("7 'number (n - 1) / 2 (down), from 0 on'; 'as often as there are pieces'");
        boxes(0, 11, 1);
        pins(10, 11, 1);
        // Of n = 3, 1, 2, 4 and, with one neighbour twice, 3: places 2, 3, 0, 1 and 4.
        arrows(0, 0, 7, 2, 7, 4, 7, 3, 5, 0, 6, 4, 6, 0, 8, 1, 8, 3, 8, 4, 8);
        arrows(10, 1, 9, 4, 9, 4, 9);
        yes("draw", x.draw(1));
        row(1, 6, 8, 7, 5, 9, 10, 11);
        start("7 'those with the same one as they stood'");
        boxes(0, 8, 1);
        arrows(0, 1, 2, 0, 3, 1, 4, 0, 5, 1, 6, 0, 7, 1, 8);
        yes("draw", x.draw(1));
        row(1, 3, 5, 7, 2, 4, 6, 8);
        start("7 'take the places where such items stood; the others stay'");
        boxes(0, 8, 1);
        pins(2, 8, 1);
        arrows(0, 1, 3, 0, 5, 0, 7);
        yes("draw", x.draw(1));
        row(1, 2, 5, 4, 7, 6, 3, 8);
    }

    private void stepsThatCost() {
        start("7 'If the crossings .. would be more together than before, all stays': as many are not more");
        boxes(0, 6, 1);
        arrows(0, 0, 3, 1, 2, 1, 4, 2, 5, 2, 5, 3, 6);
        yes("draw without rounds", x.draw(0));
        row(0, 0, 1);
        row(1, 3, 2, 4);
        // Layer 1 would win 1 above and lose 2 below: it stays; layer 0 has 1 in both orders: it goes.
        yes("draw", x.draw(1));
        row(0, 1, 0);
        row(1, 2, 4, 3);
        row(2, 5, 6);
        start("7 'with the layer above and that below .. together', by lower neighbours");
        boxes(0, 7, 1);
        arrows(0, 0, 2, 0, 2, 1, 3, 2, 5, 3, 4, 4, 6, 4, 6, 5, 7);
        // Layer 2 stays for layer 3; so layer 1 would win 1 below and lose 2 above: it stays.
        yes("draw", x.draw(1));
        row(0, 0, 1);
        row(1, 2, 3);
        row(2, 5, 4);
        row(3, 7, 6);
    }

    private void atMostSix() {
        start("7 'one of at most six items'");
        boxes(0, 12, 1);
        arrows(0, 0, 11, 1, 10, 2, 9, 3, 8, 4, 7, 5, 6);
        yes("draw", x.draw(0));
        row(1, 11, 10, 9, 8, 7, 6);
        due("crossings", x.count(5), 0);
        x.pin(12, 2);
        x.arrow(6, 5, 12);
        yes("draw with a dummy more", x.draw(0));
        row(1, 6, 7, 8, 9, 10, 11, 106);
        due("crossings", x.count(5), 15);
        yes("drop(0)", x.drop(0));
        yes("remove(11)", x.remove(11));
        yes("draw with six, one a dummy", x.draw(0));
        row(1, 10, 9, 8, 7, 6, 106);
        due("crossings", x.count(5), 0);
        start("7 at last 'layers 1, 2, ..', not layer 0");
        boxes(0, 8, 1);
        pins(3, 8, 1);
        x.pin(2, 1);
        arrows(0, 0, 3, 1, 2);
        yes("draw", x.draw(0));
        row(0, 0, 1);
        row(1, 2, 3, 4, 5, 6, 7, 8);
        due("crossings", x.count(5), 1);
    }

    private void firstOfTheBest() {
        start("7 'of several the first one'");
        boxes(0, 4, 1);
        x.pin(3, 1);
        arrows(0, 0, 4, 1, 2);
        // 4 must stand ahead of 2; of 3 4 2, 4 2 3 and 4 3 2 the first one by the places 1, 2, 0.
        yes("draw", x.draw(0));
        row(1, 3, 4, 2);
        start("7 'by the places that items had', not by numbers");
        x.box(0, 1);
        boxes(2, 7, 1);
        arrows(0, 0, 2, 0, 3, 2, 5, 3, 4, 4, 6, 4, 6, 5, 7);
        yes("draw without rounds", x.draw(0));
        row(1, 2, 3);
        row(2, 5, 4);
        // Layer 2 stays for layer 3, so layer 1 turns round for it, and box 0 doesn't mind.
        yes("draw", x.draw(1));
        row(1, 3, 2);
        row(2, 4, 5);
        row(3, 6, 7);
        start("7 'of several the first one': two that cross either way");
        boxes(0, 3, 1);
        arrows(0, 0, 2, 0, 3, 1, 2, 1, 3);
        yes("draw", x.draw(4));
        row(1, 2, 3);
        due("crossings", x.count(5), 1);
        start("7 'of several the first one': nothing to win");
        boxes(0, 11, 1);
        pins(6, 11, 1);
        yes("draw", x.draw(4));
        row(1, 6, 7, 8, 9, 10, 11);
    }

    private void crossings() {
        start("7 'whose upper ends are two items, and the lower ends, too'");
        boxes(0, 1, 1);
        for (int a = 0; a < 24; a++) {
            x.arrow(a, 0, 1);
        }
        yes("draw", x.draw(1));
        due("both ends the same", x.count(5), 0);
        start("7 one upper end");
        boxes(0, 7, 1);
        arrows(0, 0, 7, 0, 6, 0, 5, 0, 4);
        yes("draw", x.draw(0));
        due("crossings", x.count(5), 0);
        start("7 every pair of pieces counts");
        boxes(0, 8, 1);
        pins(2, 8, 1);
        arrows(0, 0, 8, 0, 8, 0, 8, 1, 2, 1, 2);
        yes("draw", x.draw(0));
        due("three and two pieces", x.count(5), 6);
        due("between", x.between(0, 0), 6);
    }

    private void columns() {
        start("7 '4 behind the end .. of the one ahead of it, the first one at 0'");
        boxes(0, 15, 50);
        yes("draw", x.draw(0));
        for (int id = 0; id < 16; id++) {
            spot(id, 0, id, 54 * id);
        }
        due("the greatest end", x.count(6), 860);
        start("7 'half its width (down)'");
        x.box(0, 3);
        x.box(1, 50);
        x.arrow(0, 0, 1);
        yes("draw", x.draw(0));
        part(0, 0, 25, 25, -1);
        spot(0, 0, 0, 24);
        spot(1, 1, 0, 0);
        start("7 'Four PASSES'; 'through n (down)'; 'or, if that is more, 4 behind'; 'less by the least x'");
        boxes(0, 2, 1);
        arrows(0, 0, 1, 0, 2);
        // 1 and 2 lie at 0 and 5, 0 at 2, then 1 and 2 at 2 and 7, 0 at 4; all less 2.
        yes("draw", x.draw(0));
        spot(0, 0, 0, 2);
        spot(1, 1, 0, 0);
        spot(2, 1, 1, 5);
        start("7 'without such neighbours, the x that it has'; a least x below 0");
        x.box(0, 2);
        x.box(1, 50);
        x.box(2, 2);
        x.arrow(0, 0, 1);
        x.pin(2, 1);
        // 1 lies at -24, 2 keeps 54; all less -24.
        yes("draw", x.draw(0));
        spot(0, 0, 0, 24);
        spot(1, 1, 0, 0);
        spot(2, 1, 1, 78);
        start("7 a dummy 'of width 1'");
        boxes(0, 2, 1);
        x.pin(1, 2);
        pins(2, 2, 1);
        x.arrow(0, 0, 1);
        // The dummy stands 4 behind box 2, which keeps 0; the others lie above and below it.
        yes("draw", x.draw(0));
        spot(0, 0, 0, 5);
        spot(1, 2, 0, 5);
        spot(2, 1, 0, 0);
        counts(3, 4, 0, 6, 0);
    }

    private void tracks() {
        start("7 'end to the left of where it begins'");
        boxes(0, 4, 1);
        arrows(0, 1, 2, 2, 3, 1, 4, 2, 4, 0, 3);
        yes("draw", x.draw(1));
        row(1, 104, 2, 102);
        part(1, 1, 5, 0, 0);
        part(3, 1, 5, 6, 1);
        part(2, 1, 10, 6, 0);
        part(4, 1, 0, 0, -1);
        due("tracks", x.between(1, 1), 2);
        start("7 'of the same ones by their arrows' numbers'");
        boxes(0, 2, 1);
        x.arrow(7, 0, 2);
        x.arrow(3, 0, 2);
        x.arrow(9, 0, 1);
        x.arrow(23, 0, 2);
        // 1 begins at 0 and 2 at 5; 0 at 3, then they at 3 and 8, and 0 at 6: all less 3.
        yes("draw", x.draw(0));
        part(9, 0, 3, 0, 0);
        part(3, 0, 3, 5, 1);
        part(7, 0, 3, 5, 2);
        part(23, 0, 3, 5, 3);
        due("tracks", x.count(7), 4);
        start("7 as many tracks as arrows");
        boxes(0, 2, 1);
        x.arrow(0, 0, 1);
        for (int a = 1; a < 24; a++) {
            x.arrow(a, 0, 2);
        }
        yes("draw", x.draw(0));
        for (int a = 0; a < 24; a++) {
            due("piece(" + a + ", 0, 2)", x.piece(a, 0, 2), a);
        }
        due("tracks", x.between(0, 1), 24);
    }

    public static void main(String[] args) {
        DrawEdgesTest test = new DrawEdgesTest();
        test.rounds();
        test.eachRound();
        test.pinsContradict();
        test.falseTellsNothing();
        test.layers();
        test.dummies();
        test.firstOrders();
        test.medians();
        test.stepsThatCost();
        test.atMostSix();
        test.firstOfTheBest();
        test.crossings();
        test.columns();
        test.tracks();
        test.check.end("DrawEdgesTest");
    }
}
