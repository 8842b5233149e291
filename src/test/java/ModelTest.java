import java.util.Random;
import java.util.function.IntSupplier;

/** Random runs of calls, seeds fixed, on the class and on the plain model: all answers agree. */
public final class ModelTest {
    private static final int THROWN = Integer.MIN_VALUE;

    private final Check check;
    private final String run;
    private final Random random;
    private final RouteLayout real = new RouteLayout();
    private final PlainModel model = new PlainModel();
    private final StringBuilder calls = new StringBuilder();
    private final int boxes;
    private final int arrows;
    private final int widest;
    private final int pinning;
    private boolean sound = true;

    private ModelTest(Check check, int seed) {
        this.check = check;
        run = "seed " + seed;
        random = new Random(seed);
        boxes = 2 + random.nextInt(15);
        arrows = 1 + random.nextInt(24);
        widest = 1 + random.nextInt(50);
        pinning = random.nextInt(12);
    }

    private static int answer(IntSupplier call) {
        try {
            return call.getAsInt();
        } catch (RuntimeException e) {
            return e.getClass() == IllegalArgumentException.class ? THROWN : THROWN + 1;
        }
    }

    private void same(String call, IntSupplier got, IntSupplier want) {
        int due = answer(want);
        int is = answer(got);
        if (is != due && sound) {
            sound = false;
            System.out.println(run + ":" + calls);
        }
        check.due(run + ": " + call, is, due);
    }

    private int near(int bound) {
        return random.nextInt(40) == 0 ? random.nextInt(bound + 6) - 3 : random.nextInt(bound);
    }

    private void change() {
        int kind = random.nextInt(20);
        int id = near(boxes);
        int a = near(arrows);
        if (kind < 4) {
            int width = 1 + near(widest);
            note("box(" + id + ", " + width + ")");
            same("box", () -> { real.box(id, width); return 0; }, () -> { model.box(id, width); return 0; });
        } else if (kind < 14) {
            int from = near(boxes);
            note("arrow(" + a + ", " + from + ", " + id + ")");
            same("arrow", () -> { real.arrow(a, from, id); return 0; }, () -> { model.arrow(a, from, id); return 0; });
        } else if (kind < 16) {
            note("drop(" + a + ")");
            same("drop", () -> real.drop(a) ? 1 : 0, () -> model.drop(a) ? 1 : 0);
        } else if (kind < 19) {
            boolean off = random.nextInt(12) >= pinning;
            int layer = off ? -1 : near(9);
            note("pin(" + id + ", " + layer + ")");
            same("pin", () -> { real.pin(id, layer); return 0; }, () -> { model.pin(id, layer); return 0; });
        } else if (random.nextInt(2) == 0) {
            note("remove(" + id + ")");
            same("remove", () -> real.remove(id) ? 1 : 0, () -> model.remove(id) ? 1 : 0);
        }
    }

    private void make() {
        int rounds = near(5);
        if (random.nextInt(2) == 0) {
            note("draw(" + rounds + ")");
            same("draw", () -> real.draw(rounds) ? 1 : 0, () -> model.draw(rounds) ? 1 : 0);
        } else {
            int tolerance = near(random.nextInt(3) * 3 + 1);
            note("redraw(" + rounds + ", " + tolerance + ")");
            same("redraw", () -> real.redraw(rounds, tolerance), () -> model.redraw(rounds, tolerance));
        }
    }

    private void note(String call) {
        calls.append(' ').append(call).append(';');
    }

    private void compareAll() {
        for (int what = -1; what <= 8; what++) {
            int w = what;
            same("count(" + w + ")", () -> real.count(w), () -> model.count(w));
        }
        for (int k = -1; k <= 24; k++) {
            int n = k;
            same("reversed(" + n + ")", () -> real.reversed(n), () -> model.reversed(n));
            for (int what = 0; what <= 2; what++) {
                int w = what;
                same("at(" + n + ", " + w + ")", () -> real.at(n, w), () -> model.at(n, w));
                same("between(" + n + ", " + w + ")", () -> real.between(n, w), () -> model.between(n, w));
                for (int layer = 0; layer < 24; layer++) {
                    int l = layer;
                    same("piece(" + n + ", " + l + ", " + w + ")", () -> real.piece(n, l, w), () -> model.piece(n, l, w));
                }
            }
            for (int place = -1; place <= 40; place++) {
                int p = place;
                same("item(" + n + ", " + p + ")", () -> real.item(n, p), () -> model.item(n, p));
            }
        }
    }

    private void fill() {
        for (int id = 0; id < boxes; id++) {
            int width = 1 + random.nextInt(widest);
            note("box(" + id + ", " + width + ")");
            real.box(id, width);
            model.box(id, width);
        }
        for (int a = 0; a < arrows; a++) {
            int from = random.nextInt(boxes);
            putArrow(a, from, (from + 1 + random.nextInt(boxes - 1)) % boxes);
        }
    }

    /** Few layers, planned for each box, arrows that lead down, and pins that agree with them. */
    private void fillPlanned() {
        int[] plan = new int[boxes];
        int layers = 2 + random.nextInt(4);
        for (int id = 0; id < boxes; id++) {
            plan[id] = random.nextInt(layers);
            int width = 1 + random.nextInt(widest);
            note("box(" + id + ", " + width + ")");
            real.box(id, width);
            model.box(id, width);
            if (random.nextInt(12) < pinning) {
                note("pin(" + id + ", " + plan[id] + ")");
                real.pin(id, plan[id]);
                model.pin(id, plan[id]);
            }
        }
        for (int a = 0; a < arrows; a++) {
            int from = random.nextInt(boxes);
            int to = random.nextInt(boxes);
            if (plan[from] < plan[to]) {
                putArrow(a, from, to);
            }
        }
    }

    private void putArrow(int a, int from, int to) {
        note("arrow(" + a + ", " + from + ", " + to + ")");
        real.arrow(a, from, to);
        model.arrow(a, from, to);
    }

    private void go(int turns) {
        if (random.nextInt(2) == 0) {
            fill();
        } else {
            fillPlanned();
        }
        for (int turn = 0; turn < turns && sound; turn++) {
            make();
            compareAll();
            int changes = random.nextInt(5);
            for (int k = 0; k < changes; k++) {
                change();
            }
        }
    }

    public static void main(String[] args) {
        int runs = args.length > 0 ? Integer.parseInt(args[0]) : 400;
        Check check = new Check();
        for (int seed = 1; seed <= runs; seed++) {
            new ModelTest(check, seed).go(12);
        }
        check.end("ModelTest");
    }
}
