import java.io.IOException;
import java.nio.file.Files;
import java.nio.file.Path;
import java.util.ArrayList;
import java.util.List;

/** The example in README.md stands here too, line by line, and answers as README.md says. */
public final class ReadmeTest {
    private static final Check CHECK = new Check();

    private static void example() {
        // README.md's example begins
        RouteLayout routes = new RouteLayout();
        routes.box(0, 10);                      // boxes 0 .. 15, widths 1 .. 50
        routes.box(1, 3);
        routes.box(2, 5);
        routes.arrow(0, 0, 1);                  // arrows 0 .. 23, each from a box to another one
        routes.arrow(1, 1, 2);
        routes.arrow(2, 2, 0);                  // closes a cycle
        int turned = routes.reversed(2);        // 1: it is drawn as if it led from box 0 to box 2
        routes.pin(2, 3);                       // to a layer 0 .. 8, or -1: not pinned any more
        boolean drawn = routes.draw(2);         // true; false if the pins contradict the arrows
        int layer = routes.at(2, 0);            // 3: what 0 is a box's layer, 1 its place, 2 its x
        int left = routes.at(1, 2);             // 1
        int item = routes.item(1, 1);           // 102: the dummy of arrow 2; a box has its own number
        int upper = routes.piece(2, 0, 0);      // 5: the middle of the upper end; what 1: of the lower one
        int track = routes.piece(2, 0, 2);      // 1
        int crossings = routes.between(0, 0);   // 0
        int tracks = routes.between(0, 1);      // 2
        int width = routes.count(6);            // 10: the greatest end of an item
        boolean dropped = routes.drop(2);       // true: from now on nothing is told
        int untold = routes.at(1, 2);           // -1
        int moved = routes.redraw(2, 1);        // 0: the old orders are kept for at most 1 crossing more
        // README.md's example ends
        CHECK.due("turned", turned, 1);
        CHECK.due("drawn", drawn ? 1 : 0, 1);
        CHECK.due("layer", layer, 3);
        CHECK.due("left", left, 1);
        CHECK.due("item", item, 102);
        CHECK.due("upper", upper, 5);
        CHECK.due("track", track, 1);
        CHECK.due("crossings", crossings, 0);
        CHECK.due("tracks", tracks, 2);
        CHECK.due("width", width, 10);
        CHECK.due("dropped", dropped ? 1 : 0, 1);
        CHECK.due("untold", untold, -1);
        CHECK.due("moved", moved, 0);
    }

    /** The lines between one that is the first text and the next one that is the second. */
    private static List<String> linesBetween(String file, String begin, String end) throws IOException {
        List<String> found = new ArrayList<>();
        boolean inside = false;
        for (String line : Files.readAllLines(Path.of(file))) {
            if (inside && line.strip().equals(end)) {
                return found;
            }
            if (inside) {
                found.add(line.strip());
            }
            inside |= line.strip().equals(begin);
        }
        return List.of("no such lines in " + file);
    }

    public static void main(String[] args) throws IOException {
        example();
        List<String> told = linesBetween("README.md", "```java", "```");
        List<String> run = linesBetween("src/test/java/ReadmeTest.java",
                "// README.md's example begins", "// README.md's example ends");
        CHECK.due("README.md's example", String.join("\n", told), String.join("\n", run));
        CHECK.due("its lines", told.size(), 21);
        CHECK.end("ReadmeTest");
    }
}
