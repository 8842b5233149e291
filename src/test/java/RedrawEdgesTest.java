/** The sentences on redrawing (promise 8 and its terms) that name a boundary case, one by one. */
public final class RedrawEdgesTest extends Bench {

    /** 0, 1, 2 above 3, 4, 5, drawn without a crossing; then the arrows are turned round: 3 of them. */
    private void startTurned(String name) {
        start(name);
        boxes(0, 5, 4);
        arrows(0, 0, 3, 1, 4, 2, 5);
        yes("draw", x.draw(0));
        row(1, 3, 4, 5);
        arrows(0, 0, 5, 1, 4, 2, 3);
    }

    private void byMoreThanATolerance() {
        startTurned("8 'by more than a tolerance': as much is not more");
        due("redraw(0, 3)", x.redraw(0, 3), 0);
        row(1, 3, 4, 5);
        due("crossings", x.count(5), 3);
        startTurned("8 'by more than a tolerance': one less");
        due("redraw(0, 2)", x.redraw(0, 2), 2);
        row(1, 5, 4, 3);
        due("crossings", x.count(5), 0);
        start("8 'than a drawing has': it has a crossing, too");
        boxes(0, 3, 4);
        arrows(0, 0, 3, 1, 2);
        yes("draw", x.draw(0));
        row(1, 3, 2);
        arrows(2, 0, 2, 1, 3);
        due("redraw(0, 0)", x.redraw(0, 0), 0);
        row(1, 3, 2);
        due("crossings", x.count(5), 1);
        yes("draw", x.draw(0));
        row(1, 2, 3);
        due("crossings", x.count(5), 1);
        start("8 as many crossings are not more, with tolerance 0");
        boxes(0, 1, 4);
        yes("draw", x.draw(0));
        x.remove(0);
        due("redraw", x.redraw(0, 0), 1);
        x.box(0, 4);
        due("redraw", x.redraw(0, 0), 0);
        row(0, 1, 0);
        due("crossings", x.count(5), 0);
    }

    private void tolerances() {
        startTurned("8 'a tolerance 0 .. 100000'");
        refused("redraw(0, -1)", () -> x.redraw(0, -1));
        refused("redraw(0, 100001)", () -> x.redraw(0, 100001));
        refused("redraw(0, 165536)", () -> x.redraw(0, 165536));
        for (int far : FAR) {
            if (far < 0 || far > 100000) {
                refused("redraw(0, " + far + ")", () -> x.redraw(0, far));
            }
        }
        nothingTold();
        due("redraw(0, 100000)", x.redraw(0, 100000), 0);
        row(1, 3, 4, 5);
        refused("redraw(0, 100001), and it stays told", () -> x.redraw(0, 100001));
        row(1, 3, 4, 5);
        due("redraw(0, 0)", x.redraw(0, 0), 2);
        row(1, 5, 4, 3);
    }

    private void rounds() {
        startTurned("8 'and 0 .. 4 rounds'");
        for (int rounds = 0; rounds <= 4; rounds++) {
            due("redraw(" + rounds + ", 3)", x.redraw(rounds, 3), 0);
        }
        refused("redraw(-1, 3)", () -> x.redraw(-1, 3));
        refused("redraw(5, 3)", () -> x.redraw(5, 3));
        refused("redraw(5, 100000), where it wouldn't come to drawing", () -> x.redraw(5, 100000));
        refused("redraw(5, -1), both wrong", () -> x.redraw(5, -1));
        for (int far : FAR) {
            refused("redraw(" + far + ", 3)", () -> x.redraw(far, 3));
        }
        row(1, 3, 4, 5);
        due("still told", x.count(5), 3);
    }

    /** Seven below seven, each other way round: only rounds order so many. */
    private void roundsIfItComesToDrawing() {
        start("8 'rounds if it comes to drawing'");
        boxes(0, 13, 4);
        pins(7, 13, 1);
        yes("draw", x.draw(0));
        for (int a = 0; a < 7; a++) {
            x.arrow(a, a, 13 - a);
        }
        due("without rounds a drawing has as many crossings", x.redraw(0, 0), 0);
        due("crossings", x.count(5), 21);
        due("with a round it has none, but they are tolerated", x.redraw(1, 21), 0);
        due("crossings", x.count(5), 21);
        due("all but the middle one change places", x.redraw(1, 20), 6);
        row(1, 13, 12, 11, 10, 9, 8, 7);
        due("crossings", x.count(5), 0);
    }

    private void whoIsCounted() {
        start("8 'how many boxes that stood in OLD, and are there'");
        boxes(0, 15, 1);
        yes("draw", x.draw(0));
        due("none moves", x.redraw(0, 0), 0);
        x.remove(15);
        due("the last one goes, and isn't counted", x.redraw(0, 0), 0);
        x.box(15, 1);
        due("it comes, and isn't counted", x.redraw(0, 0), 0);
        x.remove(0);
        due("the first one goes, and all the others move up", x.redraw(0, 0), 15);
        x.box(0, 1);
        due("it comes behind them", x.redraw(0, 0), 0);
        due("its place", x.at(0, 1), 15);
        pins(0, 15, 1);
        due("all stand in another layer", x.redraw(0, 0), 16);
        row(1, 0, 1, 2, 3, 4, 5, 6, 7, 8, 9, 10, 11, 12, 13, 14, 15);
    }

    private void anotherLayerOrPlace() {
        start("8 'in another layer', in the same place");
        x.box(3, 4);
        yes("draw", x.draw(0));
        x.pin(3, 8);
        due("redraw", x.redraw(0, 0), 1);
        spot(3, 8, 0, 0);
        due("redraw once more", x.redraw(0, 0), 0);
        start("8 'or place', in the same layer");
        boxes(3, 4, 4);
        yes("draw", x.draw(0));
        x.remove(3);
        due("redraw", x.redraw(0, 0), 1);
        spot(4, 0, 0, 0);
        start("8 another x alone is no other place");
        boxes(3, 4, 4);
        yes("draw", x.draw(0));
        x.box(3, 50);
        due("redraw", x.redraw(0, 0), 0);
        spot(4, 0, 1, 54);
        start("8 a box that has gone and come is the same by its number");
        boxes(3, 4, 4);
        yes("draw", x.draw(0));
        x.remove(3);
        x.box(3, 4);
        due("redraw", x.redraw(0, 0), 0);
        x.remove(3);
        x.box(3, 4);
        x.pin(3, 1);
        due("in another layer, and 4 moves up", x.redraw(0, 0), 2);
    }

    private void contradiction() {
        start("8 '-1 if the pins contradict (then as above)'");
        boxes(0, 1, 4);
        yes("draw", x.draw(0));
        x.remove(0);
        due("redraw", x.redraw(0, 0), 1);
        x.box(0, 4);
        due("redraw", x.redraw(0, 0), 0);
        row(0, 1, 0);
        x.arrow(0, 0, 1);
        x.pin(1, 0);
        due("1 beside its upper end", x.redraw(4, 100000), -1);
        nothingTold();
        due("again", x.redraw(0, 0), -1);
        x.drop(0);
        due("OLD has stayed", x.redraw(0, 0), 0);
        row(0, 1, 0);
    }

    private void withoutOld() {
        start("8 without OLD, without boxes");
        due("redraw", x.redraw(4, 100000), 0);
        counts(0, 0, 0, 0, 0);
        start("8 without OLD the first orders stand for it");
        boxes(0, 3, 4);
        arrows(0, 0, 3, 1, 2);
        due("redraw(4, 1)", x.redraw(4, 1), 0);
        row(1, 2, 3);
        start("8 without OLD, drawn instead, none stood there");
        boxes(0, 3, 4);
        arrows(0, 0, 3, 1, 2);
        due("redraw(0, 0)", x.redraw(0, 0), 0);
        row(1, 3, 2);
        start("8 all boxes go");
        boxes(0, 3, 4);
        yes("draw", x.draw(0));
        for (int id = 0; id < 4; id++) {
            x.remove(id);
        }
        due("redraw", x.redraw(0, 0), 0);
        counts(0, 0, 0, 0, 0);
        boxes(0, 3, 4);
        due("OLD is empty now", x.redraw(0, 0), 0);
    }

    private void oldOnesFirst() {
        start("8 'those items stand first that stood in OLD in this layer'");
        boxes(0, 3, 4);
        x.pin(0, 1);
        x.pin(2, 1);
        yes("draw", x.draw(0));
        row(0, 1, 3);
        pins(0, 3, 0);
        due("0 and 2 come from another layer", x.redraw(0, 0), 2);
        row(0, 1, 3, 0, 2);
        start("8 a dummy that stood in OLD in another layer is not first");
        boxes(0, 1, 4);
        boxes(3, 4, 4);
        x.pin(0, 0);
        x.pin(1, 2);
        x.pin(3, 1);
        x.pin(4, 3);
        x.arrow(2, 0, 1);
        x.arrow(9, 3, 4);
        yes("draw", x.draw(0));
        row(1, 3, 102);
        row(2, 109, 1);
        x.pin(0, 1);
        x.pin(1, 3);
        due("0 and 1 move", x.redraw(0, 0), 2);
        row(1, 3, 0);
        row(2, 109, 102);
        row(3, 4, 1);
    }

    private void sameDummies() {
        start("8 'a dummy is the same if it is of the arrow with the same number'");
        boxes(0, 1, 4);
        x.pin(1, 2);
        x.arrow(3, 0, 1);
        yes("draw", x.draw(0));
        x.arrow(1, 0, 1);
        due("redraw", x.redraw(0, 0), 0);
        row(1, 103, 101);
        x.arrow(3, 1, 0);
        due("reversed(3)", x.reversed(3), 1);
        due("reversed now, but the same", x.redraw(0, 0), 0);
        row(1, 103, 101);
        x.drop(3);
        x.arrow(3, 0, 1);
        due("dropped and put again, but the same", x.redraw(0, 0), 0);
        row(1, 103, 101);
        x.drop(3);
        due("redraw", x.redraw(0, 0), 0);
        row(1, 101);
        x.arrow(3, 0, 1);
        due("it did not stand in OLD", x.redraw(0, 0), 0);
        row(1, 101, 103);
    }

    private void keptAsTheyStood() {
        startTurned("8 'as they stood': what is kept is not ordered again");
        due("redraw(4, 3)", x.redraw(4, 3), 0);
        row(0, 0, 1, 2);
        row(1, 3, 4, 5);
        startTurned("8 'the drawing that was made latest': a redrawing, too");
        due("redraw", x.redraw(0, 0), 2);
        arrows(0, 0, 3, 1, 4, 2, 5);
        due("OLD is the redrawing", x.redraw(0, 3), 0);
        row(1, 5, 4, 3);
        startTurned("8 'the drawing that was made latest': one that is told no more, too");
        x.box(0, 9);
        x.pin(0, 0);
        due("redraw", x.redraw(0, 3), 0);
        row(1, 3, 4, 5);
    }

    public static void main(String[] args) {
        RedrawEdgesTest test = new RedrawEdgesTest();
        test.byMoreThanATolerance();
        test.tolerances();
        test.rounds();
        test.roundsIfItComesToDrawing();
        test.whoIsCounted();
        test.anotherLayerOrPlace();
        test.contradiction();
        test.withoutOld();
        test.oldOnesFirst();
        test.sameDummies();
        test.keptAsTheyStood();
        test.check.end("RedrawEdgesTest");
    }
}
