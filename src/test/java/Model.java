import java.math.BigInteger;
import java.util.ArrayList;
import java.util.Comparator;
import java.util.HashSet;
import java.util.List;
import java.util.Objects;
import java.util.Set;

/** The document written a second time, slowly and with the whole library, to ask CleanChecks against. */
final class Model {
    private record Place(long x, long y) {
        boolean isOutside() {
            return Math.abs((double) x) > 1e6 || Math.abs((double) y) > 1e6;
        }

        BigInteger dot(Place other) {
            return big(x).multiply(big(other.x)).add(big(y).multiply(big(other.y)));
        }

        BigInteger cross(Place other) {
            return big(x).multiply(big(other.y)).subtract(big(y).multiply(big(other.x)));
        }

        Place less(Place other) {
            return new Place(x - other.x, y - other.y);
        }
    }

    private record Fraction(BigInteger above, BigInteger below) implements Comparable<Fraction> {
        @Override
        public int compareTo(Fraction other) {
            return above.multiply(other.below).compareTo(other.above.multiply(below));
        }
    }

    private record Rule(int kind, int classA, int classB, long value) {
    }

    private record Waiver(int kind, int a, int b) {
    }

    private record Violation(int layer, Place place, int kind, int a, int b) {
        Waiver waiver() {
            return new Waiver(kind, a, b);
        }
    }

    private static final class Shape {
        int net;
        int layer;
        int kind;
        int group;
        long radius;
        boolean closed;
        List<Place> corners = new ArrayList<>();

        boolean copper() {
            return kind == 0 || kind == 1;
        }

        List<Place[]> pieces() {
            List<Place[]> pieces = new ArrayList<>();
            if (corners.size() == 1) {
                pieces.add(new Place[] {corners.get(0), corners.get(0)});
            }
            for (int i = 1; i < corners.size(); i++) {
                pieces.add(new Place[] {corners.get(i - 1), corners.get(i)});
            }
            return pieces;
        }
    }

    private final int layers;
    private final List<Shape> shapes = new ArrayList<>();
    private final List<Rule> rules = new ArrayList<>();
    private final Set<Waiver> waivers = new HashSet<>();
    private List<Violation> latest = new ArrayList<>();
    private int strips = 8;

    Model(int layers) {
        this.layers = layers < 1 ? 1 : layers > 16 ? 16 : layers;
    }

    private static BigInteger big(long value) {
        return BigInteger.valueOf(value);
    }

    private static void argument(boolean good) {
        if (!good) {
            throw new IllegalArgumentException();
        }
    }

    private static void inside(long index, long size) {
        if (index < 0 || index >= size) {
            throw new IndexOutOfBoundsException();
        }
    }

    private Shape find(int number, boolean open) {
        inside(number, shapes.size());
        Shape shape = shapes.get(number);
        if (open && shape.closed) {
            throw new IllegalStateException();
        }
        return shape;
    }

    int shape(int net, int layer, int kind) {
        inside(layer, layers);
        argument(net >= -1 && net < 1000 && kind >= 0 && kind < 4);
        if (shapes.size() == 60) {
            return -1;
        }
        Shape shape = new Shape();
        shape.net = net;
        shape.layer = layer;
        shape.kind = kind;
        shapes.add(shape);
        return shapes.size() - 1;
    }

    boolean corner(int number, long x, long y) {
        Shape shape = find(number, true);
        Place place = new Place(x, y);
        argument(!place.isOutside());
        int size = shape.corners.size();
        if (size == 8 || size > 0 && shape.corners.get(size - 1).equals(place)) {
            return false;
        }
        return shape.corners.add(place);
    }

    boolean closeShape(int number, long r) {
        Shape shape = find(number, true);
        argument(r >= 1 && r <= 100000);
        if (shape.corners.isEmpty()) {
            return false;
        }
        shape.radius = r;
        shape.closed = true;
        return true;
    }

    int rule(int kind, int classA, int classB, long v) {
        argument(kind >= 0 && kind < 7 && classA >= -1 && classA < 8 && classB >= -1 && classB < 8);
        argument(v >= 0 && v <= (kind >= 5 ? 0 : 100000));
        if (rules.size() == 30) {
            return -1;
        }
        rules.add(new Rule(kind, classA, classB, v));
        return rules.size() - 1;
    }

    boolean cls(int number, int c) {
        Shape shape = find(number, false);
        argument(c >= 0 && c < 8);
        boolean another = shape.group != c;
        shape.group = c;
        return another;
    }

    int run(int workers, long seed) {
        argument(workers >= 1 && workers <= 8);
        latest = now();
        return (int) latest.stream().filter(v -> !waivers.contains(v.waiver())).count();
    }

    int violation(int k, int what) {
        inside(k, latest.size());
        inside(what, 4);
        Violation v = latest.get(k);
        int waived = waivers.contains(v.waiver()) ? 1 : 0;
        return new int[] {v.kind, v.a, v.b, waived}[what];
    }

    long place(int k, int axis) {
        inside(k, latest.size());
        inside(axis, 2);
        return axis == 0 ? latest.get(k).place.x : latest.get(k).place.y;
    }

    boolean waive(int k) {
        inside(k, latest.size());
        return (waivers.size() < 60) && waivers.add(latest.get(k).waiver());
    }

    int near(long x0, long y0, long x1, long y1) {
        argument(x0 <= x1 && y0 <= y1);
        return (int) latest.stream().map(Violation::place)
                .filter(p -> x0 <= p.x && p.x <= x1 && y0 <= p.y && p.y <= y1).count();
    }

    boolean move(int number, long dx, long dy) {
        Shape shape = find(number, false);
        List<Place> moved = new ArrayList<>();
        for (Place p : shape.corners) {
            BigInteger x = big(p.x).add(big(dx));
            BigInteger y = big(p.y).add(big(dy));
            if (x.abs().compareTo(big(1000000)) > 0 || y.abs().compareTo(big(1000000)) > 0) {
                return false;
            }
            moved.add(new Place(x.longValue(), y.longValue()));
        }
        shape.corners = moved;
        return true;
    }

    boolean plain() {
        return Objects.equals(latest, now());
    }

    int kinds() {
        return (int) latest.stream().map(Violation::kind).distinct().count();
    }

    int order(int k) {
        inside(k, latest.size());
        return latest.get(k).layer;
    }

    int strips(int n) {
        argument(n >= 1 && n <= 64);
        int before = strips;
        strips = n;
        return before;
    }

    int found() {
        return latest.size();
    }

    private List<Violation> now() {
        List<Violation> all = new ArrayList<>();
        for (int a = 0; a < shapes.size(); a++) {
            for (int kind : new int[] {1, 4, 5, 6}) {
                if (shapes.get(a).closed && breaksAlone(kind, a)) {
                    all.add(violationOf(kind, a, -1));
                }
            }
            for (int b = a + 1; b < shapes.size(); b++) {
                for (int kind : new int[] {0, 2, 3}) {
                    boolean closed = shapes.get(a).closed && shapes.get(b).closed;
                    if (closed && breaksPair(kind, shapes.get(a), shapes.get(b))) {
                        all.add(violationOf(kind, a, b));
                    }
                }
            }
        }
        all.sort(Comparator.comparingInt(Violation::layer).thenComparingLong(v -> v.place.x)
                .thenComparingLong(v -> v.place.y).thenComparingInt(Violation::kind)
                .thenComparingInt(Violation::a).thenComparingInt(Violation::b));
        return all;
    }

    private Violation violationOf(int kind, int a, int b) {
        return new Violation(shapes.get(a).layer, shapes.get(a).corners.get(0), kind, a, b);
    }

    private static boolean fits(int told, int group) {
        return told == -1 || told == group;
    }

    private boolean breaksPair(int kind, Shape a, Shape b) {
        boolean asked;
        if (kind == 0) {
            asked = a.copper() && b.copper() && a.layer == b.layer && (a.net != b.net || a.net == -1);
        } else if (kind == 2) {
            asked = a.kind == 2 && b.kind == 2;
        } else {
            asked = a.layer == b.layer && Math.min(a.kind, b.kind) == 1 && Math.max(a.kind, b.kind) == 3;
        }
        Rule holding = null;
        for (Rule r : rules) {
            boolean straight = fits(r.classA, a.group) && fits(r.classB, b.group);
            boolean turned = fits(r.classA, b.group) && fits(r.classB, a.group);
            holding = r.kind == kind && (straight || turned) ? r : holding;
        }
        return asked && holding != null && compare(square(a, b), holding.value + a.radius + b.radius) < 0;
    }

    private boolean breaksAlone(int kind, int number) {
        Shape shape = shapes.get(number);
        Rule holding = null;
        for (Rule r : rules) {
            holding = r.kind == kind && fits(r.classA, shape.group) ? r : holding;
        }
        if (holding == null) {
            return false;
        }
        return switch (kind) {
            case 1 -> shape.copper() && 2 * shape.radius < holding.value;
            case 4 -> shape.kind == 2 && !ringed(shape, holding.value);
            case 5 -> shape.kind == 0 && !(joined(shape, 0) && joined(shape, shape.corners.size() - 1));
            default -> shape.kind == 0 && acute(shape);
        };
    }

    private boolean ringed(Shape hole, long value) {
        return shapes.stream().filter(s -> s.closed && s.kind == 1 && s.net == hole.net && s.net != -1)
                .anyMatch(pad -> hole.corners.stream().allMatch(
                        c -> compare(square(c, pad), pad.radius - hole.radius - value) <= 0));
    }

    private boolean joined(Shape track, int end) {
        return shapes.stream().filter(s -> s != track && s.closed && s.copper() && s.layer == track.layer)
                .filter(s -> s.net == track.net && s.net != -1)
                .anyMatch(s -> compare(square(track.corners.get(end), s), s.radius) <= 0);
    }

    private static boolean acute(Shape track) {
        for (int i = 1; i + 1 < track.corners.size(); i++) {
            Place here = track.corners.get(i);
            if (track.corners.get(i - 1).less(here).dot(track.corners.get(i + 1).less(here)).signum() > 0) {
                return true;
            }
        }
        return false;
    }

    /** The sign of a distance, told by its square, less a limit that may be negative. */
    private static int compare(Fraction square, long limit) {
        return limit < 0 ? 1 : square.compareTo(new Fraction(big(limit).pow(2), BigInteger.ONE));
    }

    private static Fraction square(Shape a, Shape b) {
        Fraction least = null;
        for (Place[] p : a.pieces()) {
            for (Place[] q : b.pieces()) {
                Fraction one = square(p, q);
                least = least == null || one.compareTo(least) < 0 ? one : least;
            }
        }
        return least;
    }

    private static Fraction square(Place c, Shape shape) {
        return shape.pieces().stream().map(q -> square(c, q)).min(Comparator.naturalOrder()).orElseThrow();
    }

    private static Fraction square(Place[] p, Place[] q) {
        if (meet(p, q)) {
            return new Fraction(BigInteger.ZERO, BigInteger.ONE);
        }
        return List.of(square(p[0], q), square(p[1], q), square(q[0], p), square(q[1], p)).stream()
                .min(Comparator.naturalOrder()).orElseThrow();
    }

    /** By the two parameters of the place where the straight lines meet; lines side by side are left to the ends. */
    private static boolean meet(Place[] p, Place[] q) {
        Place along = p[1].less(p[0]);
        Place other = q[1].less(q[0]);
        BigInteger below = along.cross(other);
        if (below.signum() == 0) {
            return false;
        }
        Place between = q[0].less(p[0]);
        return isPart(between.cross(other), below) && isPart(between.cross(along), below);
    }

    private static boolean isPart(BigInteger above, BigInteger below) {
        BigInteger signed = below.signum() < 0 ? above.negate() : above;
        return signed.signum() >= 0 && signed.compareTo(below.abs()) <= 0;
    }

    /** The foot, kept between the ends, scaled by the piece's squared length. */
    private static Fraction square(Place c, Place[] q) {
        Place along = q[1].less(q[0]);
        BigInteger length = along.dot(along);
        if (length.signum() == 0) {
            return new Fraction(c.less(q[0]).dot(c.less(q[0])), BigInteger.ONE);
        }
        BigInteger foot = c.less(q[0]).dot(along).max(BigInteger.ZERO).min(length);
        BigInteger x = big(c.x - q[0].x).multiply(length).subtract(foot.multiply(big(along.x)));
        BigInteger y = big(c.y - q[0].y).multiply(length).subtract(foot.multiply(big(along.y)));
        return new Fraction(x.pow(2).add(y.pow(2)), length.pow(2));
    }
}
