import java.util.Random;

/** Random runs of up to 512 calls, each answered by CleanChecks as by the Model; the seeds are fixed. */
public final class ModelTest {
    private interface Call {
        long made();
    }

    private static final Due due = new Due("ModelTest");
    /** A step makes two calls at most, so that an object is never asked more than 512. */
    private static final int MOST_CALLS = 511;
    private static final long[] ODD = {Long.MIN_VALUE, Long.MAX_VALUE, -1, 0, 100_000, 100_001, 1_000_000, 1_000_001};

    private final Random random;
    private final long reach;
    private final long size;
    private final int nets;
    private final int classes;
    private final CleanChecks checks;
    private final Model model;
    private int shapes;
    private int current;
    private int calls;

    private ModelTest(long seed) {
        random = new Random(seed);
        reach = new long[] {4, 12, 60, 1_000, 300_000, 1_000_000}[random.nextInt(6)];
        size = Math.max(2, Math.min(100_000, reach / 4));
        nets = 1 + random.nextInt(4);
        classes = 1 + random.nextInt(3);
        int layers = random.nextInt(5) == 0 ? random.nextInt(20) - 1 : 1 + random.nextInt(3);
        checks = new CleanChecks(layers);
        model = new Model(layers);
    }

    public static void main(String[] args) {
        int runs = args.length > 0 ? Integer.parseInt(args[0]) : 400;
        for (int seed = 0; seed < runs; seed++) {
            new ModelTest(seed).all();
        }
        due.end();
    }

    private void all() {
        int build = 60 + random.nextInt(300);
        while (calls < MOST_CALLS) {
            if (calls < build && random.nextInt(10) > 0) {
                build();
            } else {
                ask();
            }
        }
    }

    /** Answers what CleanChecks answered. */
    private String same(String call, Call ours, Call theirs) {
        calls++;
        String got = answer(() -> own(ours));
        String want = answer(theirs);
        due.yes(call + " (" + got + ", by the model " + want + ")", got.equals(want));
        return got;
    }

    /** What the machine or the library throws is no answer of CleanChecks. */
    private static long own(Call call) {
        try {
            return call.made();
        } catch (RuntimeException e) {
            if (Due.isOwn(e)) {
                throw e;
            }
            throw new AssertionError("not thrown by CleanChecks itself", e);
        }
    }

    private static String answer(Call call) {
        try {
            return Long.toString(call.made());
        } catch (RuntimeException e) {
            return e.getClass().getName();
        }
    }

    private static long bit(boolean answer) {
        return answer ? 1 : 0;
    }

    private boolean rarely() {
        return random.nextInt(40) == 0;
    }

    private long odd() {
        return ODD[random.nextInt(ODD.length)];
    }

    private long coordinate() {
        return rarely() ? odd() : random.nextLong(-reach, reach + 1);
    }

    private int number() {
        return rarely() ? random.nextInt(70) - 3 : random.nextInt(Math.max(1, shapes));
    }

    private void build() {
        int choice = random.nextInt(20);
        if (choice < 4) {
            shape();
        } else if (choice < 13) {
            int n = rarely() ? number() : current;
            long x = coordinate();
            long y = coordinate();
            same("corner", () -> bit(checks.corner(n, x, y)), () -> bit(model.corner(n, x, y)));
        } else if (choice < 18) {
            int n = rarely() ? number() : current;
            long r = rarely() ? odd() : 1 + random.nextLong(size);
            same("closeShape", () -> bit(checks.closeShape(n, r)), () -> bit(model.closeShape(n, r)));
            shape();
        } else if (choice < 19) {
            int n = number();
            int c = rarely() ? random.nextInt(12) - 2 : random.nextInt(classes);
            same("cls", () -> bit(checks.cls(n, c)), () -> bit(model.cls(n, c)));
        } else {
            rule();
        }
    }

    private void shape() {
        int net = rarely() ? random.nextInt(1005) - 3 : random.nextInt(nets + 1) - 1;
        int layer = random.nextInt(rarely() ? 20 : 2);
        int kind = rarely() ? random.nextInt(7) - 1 : random.nextInt(4);
        String got = same("shape", () -> checks.shape(net, layer, kind), () -> model.shape(net, layer, kind));
        if (got.matches("[0-9]+")) {
            current = Integer.parseInt(got);
            shapes = current + 1;
        }
    }

    private void rule() {
        int kind = rarely() ? random.nextInt(10) - 1 : random.nextInt(7);
        int a = random.nextInt(rarely() ? 12 : classes + 1) - 1;
        int b = random.nextInt(rarely() ? 12 : classes + 1) - 1;
        long v = rarely() ? odd() : kind >= 5 ? 0 : random.nextLong(size + 1);
        same("rule", () -> checks.rule(kind, a, b, v), () -> model.rule(kind, a, b, v));
    }

    private void ask() {
        int k = rarely() ? random.nextInt(5) - 3 + model.found() : random.nextInt(Math.max(1, model.found()));
        switch (random.nextInt(12)) {
            case 0, 1 -> {
                int workers = random.nextInt(rarely() ? 12 : 8) + (rarely() ? 0 : 1);
                long seed = random.nextLong();
                same("run", () -> checks.run(workers, seed), () -> model.run(workers, seed));
            }
            case 2, 3, 4 -> {
                int what = random.nextInt(rarely() ? 8 : 4) - (rarely() ? 2 : 0);
                same("violation", () -> checks.violation(k, what), () -> model.violation(k, what));
            }
            case 5 -> {
                int axis = random.nextInt(rarely() ? 4 : 2) - (rarely() ? 1 : 0);
                same("place", () -> checks.place(k, axis), () -> model.place(k, axis));
            }
            case 6 -> same("waive", () -> bit(checks.waive(k)), () -> bit(model.waive(k)));
            case 7 -> near();
            case 8 -> move();
            case 9 -> same("plain", () -> bit(checks.plain()), () -> bit(model.plain()));
            case 10 -> {
                same("kinds", checks::kinds, model::kinds);
                same("order", () -> checks.order(k), () -> model.order(k));
            }
            default -> {
                int n = random.nextInt(rarely() ? 70 : 64) + (rarely() ? 0 : 1);
                same("strips", () -> checks.strips(n), () -> model.strips(n));
                rule();
            }
        }
    }

    private void near() {
        long a = coordinate();
        long b = coordinate();
        long c = coordinate();
        long d = coordinate();
        long x0 = rarely() ? a : Math.min(a, c);
        long y0 = rarely() ? b : Math.min(b, d);
        long x1 = rarely() ? c : Math.max(a, c);
        long y1 = rarely() ? d : Math.max(b, d);
        same("near", () -> checks.near(x0, y0, x1, y1), () -> model.near(x0, y0, x1, y1));
    }

    private void move() {
        int n = number();
        long dx = rarely() ? odd() : random.nextLong(-size, size + 1);
        long dy = rarely() ? odd() : random.nextLong(-size, size + 1);
        same("move", () -> bit(checks.move(n, dx, dy)), () -> bit(model.move(n, dx, dy)));
    }
}
