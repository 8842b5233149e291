import java.util.Random;

/** Any arguments in any state: a call answers, or throws IllegalArgumentException. */
public final class RoughTest {
    private static final int[] EDGES = {
        Integer.MIN_VALUE, Integer.MIN_VALUE + 1, -101, -2, -1, 0, 1, 2, 3, 7, 8, 9, 15, 16, 22, 23, 24,
        39, 40, 50, 51, 99, 100, 123, 959, 960, 100000, 100001, Integer.MAX_VALUE - 1, Integer.MAX_VALUE
    };

    private static int pick(Random random) {
        return random.nextInt(3) == 0 ? EDGES[random.nextInt(EDGES.length)] : random.nextInt(17);
    }

    private static void call(RouteLayout x, int kind, int p, int q, int r) {
        switch (kind) {
            case 0 -> x.box(p, q);
            case 1 -> x.remove(p);
            case 2, 3, 4 -> x.arrow(p, q, r);
            case 5 -> x.drop(p);
            case 6 -> x.pin(p, q);
            case 7 -> x.draw(p);
            case 8 -> x.redraw(p, q);
            case 9 -> x.at(p, q);
            case 10 -> x.reversed(p);
            case 11 -> x.item(p, q);
            case 12 -> x.piece(p, q, r);
            case 13 -> x.between(p, q);
            default -> x.count(p);
        }
    }

    private static String thrown(RouteLayout x, int kind, int p, int q, int r) {
        try {
            call(x, kind, p, q, r);
            return "nothing";
        } catch (IllegalArgumentException e) {
            return kind == 11 || kind == 14 ? "wrongly " + e : "nothing";
        } catch (RuntimeException e) {
            return e.toString();
        }
    }

    private static void rough(Check check) {
        Random random = new Random(5);
        for (int run = 0; run < 2000; run++) {
            RouteLayout x = new RouteLayout();
            for (int id = 0; id < 16 && run % 2 == 0; id++) {
                x.box(id, 1 + random.nextInt(50));
            }
            for (int k = 0; k < 490; k++) {
                int kind = random.nextInt(15);
                int p = pick(random);
                int q = pick(random);
                int r = pick(random);
                String got = thrown(x, kind, p, q, r);
                check.due("run " + run + " call " + k + " kind " + kind + " " + p + " " + q + " " + r, got, "nothing");
            }
        }
    }

    /** 16 boxes in a chain through 23 layers with long arrows, drawn and redrawn 470 times. */
    private static void dear(Check check) {
        RouteLayout x = new RouteLayout();
        for (int id = 0; id < 16; id++) {
            x.box(id, 50 - id);
        }
        x.pin(1, 8);
        for (int a = 0; a < 24; a++) {
            x.arrow(a, a < 15 ? a : a % 5, a < 15 ? a + 1 : 15 - a % 4);
        }
        x.draw(4);
        int crossings = x.count(5);
        for (int k = 0; k < 470; k++) {
            check.due("redraw", x.redraw(4, 0), 0);
        }
        check.due("crossings", x.count(5), crossings);
    }

    public static void main(String[] args) {
        Check check = new Check();
        rough(check);
        dear(check);
        check.end("RoughTest");
    }
}
