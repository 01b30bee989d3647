import java.util.ArrayList;

/** Checks of shapes on layers by rules between classes; the document's promises are met here. */
public final class CleanChecks {
    public static final int NONE = -1;

    private static final int MOST_LAYERS = 16;
    private static final int MOST_SHAPES = 60;
    private static final int MOST_CORNERS = 8;
    private static final int MOST_RULES = 30;
    private static final int MOST_WAIVED = 60;
    private static final int MOST_WORKERS = 8;
    private static final int MOST_STRIPS = 64;
    private static final int FIRST_STRIPS = 8;
    private static final int LAST_NET = 999;
    private static final int LAST_CLASS = 7;
    private static final long FARTHEST = 1_000_000L;
    private static final long MOST_RADIUS = 100_000L;
    private static final long MOST_VALUE = 100_000L;

    private static final int TRACK = 0;
    private static final int PAD = 1;
    private static final int HOLE = 2;
    private static final int PRINT = 3;

    private static final int CLEAR = 0;
    private static final int WIDTH = 1;
    private static final int HOLES = 2;
    private static final int SILK = 3;
    private static final int RING = 4;
    private static final int ENDS = 5;
    private static final int ACUTE = 6;

    private final int layerCount;
    private final ArrayList<Shape> shapes;
    private final ArrayList<Rule> rules;
    private final Findings latest;
    private final Findings present;
    private final int[] waivedMarks;
    private int waivedCount;
    private int stripCount;

    public CleanChecks(int layers) {
        layerCount = Math.max(1, Math.min(MOST_LAYERS, layers));
        shapes = new ArrayList<Shape>();
        rules = new ArrayList<Rule>();
        latest = new Findings();
        present = new Findings();
        waivedMarks = new int[MOST_WAIVED];
        waivedCount = 0;
        stripCount = FIRST_STRIPS;
    }

    public int shape(int net, int layer, int kind) throws IndexOutOfBoundsException, IllegalArgumentException {
        if (layer < 0 || layer >= layerCount) {
            throw new IndexOutOfBoundsException("no such layer");
        }
        if (net < NONE || net > LAST_NET) {
            throw new IllegalArgumentException("no net");
        }
        if (kind < TRACK || kind > PRINT) {
            throw new IllegalArgumentException("no kind of a shape");
        }
        int number = shapes.size();
        if (number >= MOST_SHAPES) {
            return NONE;
        }
        shapes.add(new Shape(number, net, layer, kind));
        return number;
    }

    public boolean corner(int shape, long x, long y)
            throws IndexOutOfBoundsException, IllegalStateException, IllegalArgumentException {
        Shape open = openShape(shape);
        if (!isPlace(x, y)) {
            throw new IllegalArgumentException("no place");
        }
        return open.addCorner(x, y);
    }

    public boolean closeShape(int shape, long r)
            throws IndexOutOfBoundsException, IllegalStateException, IllegalArgumentException {
        Shape open = openShape(shape);
        if (r < 1 || r > MOST_RADIUS) {
            throw new IllegalArgumentException("no radius");
        }
        if (open.corners == 0) {
            return false;
        }
        open.radius = r;
        return true;
    }

    public int rule(int kind, int classA, int classB, long v) throws IllegalArgumentException {
        if (kind < CLEAR || kind > ACUTE) {
            throw new IllegalArgumentException("no kind of a rule");
        }
        if (classA < NONE || classA > LAST_CLASS || classB < NONE || classB > LAST_CLASS) {
            throw new IllegalArgumentException("no class");
        }
        long most = kind == ENDS || kind == ACUTE ? 0 : MOST_VALUE;
        if (v < 0 || v > most) {
            throw new IllegalArgumentException("no value of such a rule");
        }
        int number = rules.size();
        if (number >= MOST_RULES) {
            return NONE;
        }
        rules.add(new Rule(kind, classA, classB, v));
        return number;
    }

    public boolean cls(int shape, int c) throws IndexOutOfBoundsException, IllegalArgumentException {
        Shape one = anyShape(shape);
        if (c < 0 || c > LAST_CLASS) {
            throw new IllegalArgumentException("no class of a shape");
        }
        boolean another = one.group != c;
        one.group = c;
        return another;
    }

    public int run(int workers, long seed) throws IllegalArgumentException {
        if (workers < 1 || workers > MOST_WORKERS) {
            throw new IllegalArgumentException("no such number of workers");
        }
        int first = (int) Math.floorMod(seed, (long) stripCount);
        latest.clear();
        for (int worker = 0; worker < workers; worker++) {
            for (int turn = worker; turn < stripCount; turn += workers) {
                checkStrip(latest, (first + turn) % stripCount);
            }
        }
        latest.sort();
        return countNotWaived();
    }

    public int violation(int k, int what) throws IndexOutOfBoundsException {
        requireFinding(k);
        switch (what) {
            case 0:
                return latest.kindOf(k);
            case 1:
                return latest.firstOf(k);
            case 2:
                return latest.secondOf(k);
            case 3:
                return isWaived(latest.markOf(k)) ? 1 : 0;
            default:
                throw new IndexOutOfBoundsException("a violation has no such part");
        }
    }

    public long place(int k, int axis) throws IndexOutOfBoundsException {
        requireFinding(k);
        if (axis < 0 || axis > 1) {
            throw new IndexOutOfBoundsException("no such axis");
        }
        return axis == 0 ? latest.xOf(k) : latest.yOf(k);
    }

    public boolean waive(int k) throws IndexOutOfBoundsException {
        requireFinding(k);
        int mark = latest.markOf(k);
        if (isWaived(mark) || waivedCount >= waivedMarks.length) {
            return false;
        }
        waivedMarks[waivedCount] = mark;
        waivedCount++;
        return true;
    }

    public int near(long x0, long y0, long x1, long y1) throws IllegalArgumentException {
        if (x0 > x1 || y0 > y1) {
            throw new IllegalArgumentException("the box is turned");
        }
        int inside = 0;
        for (int k = 0; k < latest.count; k++) {
            long x = latest.xOf(k);
            long y = latest.yOf(k);
            if (x >= x0 && x <= x1 && y >= y0 && y <= y1) {
                inside++;
            }
        }
        return inside;
    }

    public boolean move(int shape, long dx, long dy) throws IndexOutOfBoundsException {
        Shape moved = anyShape(shape);
        for (int i = 0; i < moved.corners; i++) {
            // A sum that wraps around comes out far outside too.
            if (!isPlace(moved.xs[i] + dx, moved.ys[i] + dy)) {
                return false;
            }
        }
        for (int i = 0; i < moved.corners; i++) {
            moved.xs[i] += dx;
            moved.ys[i] += dy;
        }
        return true;
    }

    public boolean plain() {
        present.clear();
        for (int strip = 0; strip < stripCount; strip++) {
            checkStrip(present, strip);
        }
        present.sort();
        return latest.sameAs(present);
    }

    public int kinds() {
        int seen = 0;
        for (int k = 0; k < latest.count; k++) {
            seen |= 1 << latest.kindOf(k);
        }
        return Integer.bitCount(seen);
    }

    public int order(int k) throws IndexOutOfBoundsException {
        requireFinding(k);
        return latest.layerOf(k);
    }

    public int strips(int n) throws IllegalArgumentException {
        if (n < 1 || n > MOST_STRIPS) {
            throw new IllegalArgumentException("no such number of strips");
        }
        int before = stripCount;
        stripCount = n;
        return before;
    }

    private Shape anyShape(int number) {
        if (number < 0 || number >= shapes.size()) {
            throw new IndexOutOfBoundsException("no such shape");
        }
        return shapes.get(number);
    }

    private Shape openShape(int number) {
        Shape one = anyShape(number);
        if (one.isClosed()) {
            throw new IllegalStateException("the shape is closed");
        }
        return one;
    }

    private void requireFinding(int k) {
        if (k < 0 || k >= latest.count) {
            throw new IndexOutOfBoundsException("no such violation");
        }
    }

    private static boolean isPlace(long x, long y) {
        return x >= -FARTHEST && x <= FARTHEST && y >= -FARTHEST && y <= FARTHEST;
    }

    private boolean isWaived(int mark) {
        for (int i = 0; i < waivedCount; i++) {
            if (waivedMarks[i] == mark) {
                return true;
            }
        }
        return false;
    }

    private int countNotWaived() {
        int open = 0;
        for (int k = 0; k < latest.count; k++) {
            if (!isWaived(latest.markOf(k))) {
                open++;
            }
        }
        return open;
    }

    /** A pair belongs to the strip of its lower shape, so that each violation is found in one strip alone. */
    private void checkStrip(Findings into, int strip) {
        for (int i = 0; i < shapes.size(); i++) {
            Shape one = shapes.get(i);
            if (one.isClosed() && one.stripAmong(stripCount) == strip) {
                checkWidth(into, one);
                checkRing(into, one);
                checkEnds(into, one);
                checkAcute(into, one);
                checkPairs(into, one);
            }
        }
    }

    private void checkWidth(Findings into, Shape one) {
        // Without a rule the value is NONE, which no width is below.
        if (one.isCopper() && 2 * one.radius < valueForOne(WIDTH, one.group)) {
            into.add(WIDTH, one, NONE);
        }
    }

    private void checkRing(Findings into, Shape hole) {
        long value = hole.kind == HOLE ? valueForOne(RING, hole.group) : NONE;
        if (value == NONE) {
            return;
        }
        for (int i = 0; i < shapes.size(); i++) {
            Shape pad = shapes.get(i);
            boolean fits = pad.isClosed() && pad.kind == PAD && pad.sharesNet(hole);
            if (fits && pad.reachesCorners(hole, pad.radius - hole.radius - value)) {
                return;
            }
        }
        into.add(RING, hole, NONE);
    }

    private void checkEnds(Findings into, Shape track) {
        if (track.kind != TRACK || valueForOne(ENDS, track.group) == NONE) {
            return;
        }
        int last = Math.max(0, track.corners - 1);
        if (isLoose(track, 0) || isLoose(track, last)) {
            into.add(ENDS, track, NONE);
        }
    }

    private boolean isLoose(Shape track, int end) {
        for (int i = 0; i < shapes.size(); i++) {
            Shape other = shapes.get(i);
            boolean joins = i != track.number && other.isClosed() && other.isCopper()
                    && other.layer == track.layer && other.sharesNet(track);
            if (joins && other.reaches(track.xs[end], track.ys[end], other.radius)) {
                return false;
            }
        }
        return true;
    }

    private void checkAcute(Findings into, Shape track) {
        if (track.kind == TRACK && valueForOne(ACUTE, track.group) != NONE && track.hasAcuteCorner()) {
            into.add(ACUTE, track, NONE);
        }
    }

    private void checkPairs(Findings into, Shape a) {
        for (int i = a.number + 1; i < shapes.size(); i++) {
            Shape b = shapes.get(i);
            int kind = b.isClosed() ? kindForPair(a, b) : NONE;
            long value = kind == NONE ? NONE : valueForPair(kind, a.group, b.group);
            if (value != NONE && a.isNearer(b, value + a.radius + b.radius)) {
                into.add(kind, a, b.number);
            }
        }
    }

    /** The kind of the rules that two shapes fall under: never more than one, or NONE. */
    private static int kindForPair(Shape a, Shape b) {
        if (a.kind == HOLE && b.kind == HOLE) {
            return HOLES;
        }
        if (a.layer != b.layer) {
            return NONE;
        }
        if (a.isCopper() && b.isCopper()) {
            return a.sharesNet(b) ? NONE : CLEAR;
        }
        boolean printOnPad = (a.kind == PRINT && b.kind == PAD) || (a.kind == PAD && b.kind == PRINT);
        return printOnPad ? SILK : NONE;
    }

    /** The value of the rule that holds of one shape, or NONE. */
    private long valueForOne(int kind, int group) {
        for (int i = rules.size() - 1; i >= 0; i--) {
            Rule rule = rules.get(i);
            if (rule.kind == kind && rule.takesFirst(group)) {
                return rule.value;
            }
        }
        return NONE;
    }

    /** The value of the rule that holds of a pair, or NONE. */
    private long valueForPair(int kind, int groupA, int groupB) {
        for (int i = rules.size() - 1; i >= 0; i--) {
            Rule rule = rules.get(i);
            if (rule.kind == kind && rule.takesPair(groupA, groupB)) {
                return rule.value;
            }
        }
        return NONE;
    }

    /** Corners, the line between them, and once it is closed a radius. */
    private static final class Shape {
        /** Products of longs below 2^44 are above what a long holds: they are compared in parts of 2 * HALF bits. */
        private static final int HALF = 30;
        private static final long HALF_MASK = (1L << HALF) - 1;
        private static final long LOWER_MASK = (1L << (2 * HALF)) - 1;
        private static final long SPAN = 2 * FARTHEST + 1;

        final int number;
        final int net;
        final int layer;
        final int kind;
        final long[] xs;
        final long[] ys;
        int corners;
        int group;
        long radius;

        Shape(int number, int net, int layer, int kind) {
            this.number = number;
            this.net = net;
            this.layer = layer;
            this.kind = kind;
            xs = new long[MOST_CORNERS];
            ys = new long[MOST_CORNERS];
        }

        boolean isClosed() {
            return radius > 0;
        }

        boolean isCopper() {
            return kind == TRACK || kind == PAD;
        }

        boolean sharesNet(Shape other) {
            return net != NONE && net == other.net;
        }

        int stripAmong(int count) {
            return (int) ((xs[0] + FARTHEST) * count / SPAN);
        }

        boolean addCorner(long x, long y) {
            boolean again = corners > 0 && xs[corners - 1] == x && ys[corners - 1] == y;
            if (again || corners >= MOST_CORNERS) {
                return false;
            }
            xs[corners] = x;
            ys[corners] = y;
            corners++;
            return true;
        }

        boolean hasAcuteCorner() {
            for (int i = 1; i < corners - 1; i++) {
                long back = (xs[i - 1] - xs[i]) * (xs[i + 1] - xs[i]);
                long side = (ys[i - 1] - ys[i]) * (ys[i + 1] - ys[i]);
                if (back + side > 0) {
                    return true;
                }
            }
            return false;
        }

        /** Whether the place is not farther from the line than the limit, which is not negative. */
        boolean reaches(long x, long y, long limit) {
            for (int piece = 0; piece < pieces(); piece++) {
                if (compareToPiece(piece, x, y, limit) <= 0) {
                    return true;
                }
            }
            return false;
        }

        boolean reachesCorners(Shape other, long limit) {
            if (limit < 0) {
                return false;
            }
            for (int i = 0; i < other.corners; i++) {
                if (!reaches(other.xs[i], other.ys[i], limit)) {
                    return false;
                }
            }
            return true;
        }

        /** Whether the lines are nearer to each other than the limit, which is above 0. */
        boolean isNearer(Shape other, long limit) {
            return hasCornerNearer(other, limit) || other.hasCornerNearer(this, limit) || crosses(other);
        }

        private boolean hasCornerNearer(Shape other, long limit) {
            for (int i = 0; i < corners; i++) {
                for (int piece = 0; piece < other.pieces(); piece++) {
                    if (other.compareToPiece(piece, xs[i], ys[i], limit) < 0) {
                        return true;
                    }
                }
            }
            return false;
        }

        /** Lines that only touch have a corner on the other line, and need not be seen here. */
        private boolean crosses(Shape other) {
            for (int i = 0; i < corners - 1; i++) {
                for (int j = 0; j < other.corners - 1; j++) {
                    if (parts(i, other, j) && other.parts(j, this, i)) {
                        return true;
                    }
                }
            }
            return false;
        }

        /** Whether the ends of the other's piece lie strictly on both sides of this one's. */
        private boolean parts(int piece, Shape other, int otherPiece) {
            long first = turn(piece, other.xs[otherPiece], other.ys[otherPiece]);
            long last = turn(piece, other.xs[otherPiece + 1], other.ys[otherPiece + 1]);
            return (first < 0 && last > 0) || (first > 0 && last < 0);
        }

        /** A line of one corner is one piece, which ends where it begins. */
        private int pieces() {
            return Math.max(1, corners - 1);
        }

        /** Above or below 0 as the place lies on one side of the piece or the other, 0 straight ahead. */
        private long turn(int piece, long x, long y) {
            long alongX = xs[piece + 1] - xs[piece];
            long alongY = ys[piece + 1] - ys[piece];
            return alongX * (y - ys[piece]) - alongY * (x - xs[piece]);
        }

        /** Below, at or above 0: the place is nearer to the piece than the limit, just so far, or farther. */
        private int compareToPiece(int piece, long x, long y, long limit) {
            int end = piece + 1 < corners ? piece + 1 : piece;
            long alongX = xs[end] - xs[piece];
            long alongY = ys[end] - ys[piece];
            long length = alongX * alongX + alongY * alongY;
            long foot = alongX * (x - xs[piece]) + alongY * (y - ys[piece]);
            if (foot <= 0) {
                return Long.compare(squareTo(piece, x, y), limit * limit);
            }
            if (foot >= length) {
                return Long.compare(squareTo(end, x, y), limit * limit);
            }
            long area = Math.abs(alongX * (y - ys[piece]) - alongY * (x - xs[piece]));
            int byUpper = Long.compare(upper(area, area), upper(limit * limit, length));
            return byUpper != 0 ? byUpper : Long.compare(lower(area, area), lower(limit * limit, length));
        }

        private long squareTo(int corner, long x, long y) {
            return (x - xs[corner]) * (x - xs[corner]) + (y - ys[corner]) * (y - ys[corner]);
        }

        /** The product's part from 2^60 on. */
        private static long upper(long a, long b) {
            long least = (a & HALF_MASK) * (b & HALF_MASK);
            long middle = (a >> HALF) * (b & HALF_MASK) + (a & HALF_MASK) * (b >> HALF) + (least >> HALF);
            return (a >> HALF) * (b >> HALF) + (middle >> HALF);
        }

        /** The product's part below 2^60, which is right though the product wraps around. */
        private static long lower(long a, long b) {
            return (a * b) & LOWER_MASK;
        }
    }

    private static final class Rule {
        final int kind;
        final int classA;
        final int classB;
        final long value;

        Rule(int kind, int classA, int classB, long value) {
            this.kind = kind;
            this.classA = classA;
            this.classB = classB;
            this.value = value;
        }

        boolean takesFirst(int group) {
            return classA == NONE || classA == group;
        }

        boolean takesPair(int groupA, int groupB) {
            return (takesFirst(groupA) && takesSecond(groupB)) || (takesFirst(groupB) && takesSecond(groupA));
        }

        private boolean takesSecond(int group) {
            return classB == NONE || classB == group;
        }
    }

    /** Violations, each packed into one long whose order is theirs: layer, x, y, kind, a, b. */
    private static final class Findings {
        /** A pair falls under one kind at most, and a single shape (a track) under three. */
        private static final int MOST = MOST_SHAPES * (MOST_SHAPES - 1) / 2 + 3 * MOST_SHAPES;
        private static final int SHAPE_BITS = 6;
        private static final int KIND_BITS = 3;
        private static final int PLACE_BITS = 21;
        private static final int A_AT = SHAPE_BITS;
        private static final int KIND_AT = A_AT + SHAPE_BITS;
        private static final int Y_AT = KIND_AT + KIND_BITS;
        private static final int X_AT = Y_AT + PLACE_BITS;
        private static final int LAYER_AT = X_AT + PLACE_BITS;

        final long[] keys;
        int count;

        Findings() {
            keys = new long[MOST];
        }

        void clear() {
            count = 0;
        }

        void add(int kind, Shape a, int b) {
            if (count >= keys.length) {
                return;
            }
            long layer = (long) a.layer << LAYER_AT;
            long place = ((a.xs[0] + FARTHEST) << X_AT) | ((a.ys[0] + FARTHEST) << Y_AT);
            long mark = (kind << KIND_AT) | (a.number << A_AT) | (b - NONE);
            keys[count] = layer | place | mark;
            count++;
        }

        /** Shell's sort: in place, so that no call makes rows anew. */
        void sort() {
            int gap = 1;
            while (gap < count) {
                gap = 3 * gap + 1;
            }
            for (; gap >= 1; gap /= 3) {
                for (int i = gap; i < count; i++) {
                    sink(i, gap);
                }
            }
        }

        private void sink(int from, int gap) {
            long key = keys[from];
            int at = from;
            while (at >= gap && keys[at - gap] > key) {
                keys[at] = keys[at - gap];
                at -= gap;
            }
            keys[at] = key;
        }

        boolean sameAs(Findings other) {
            if (count != other.count) {
                return false;
            }
            for (int k = 0; k < count; k++) {
                if (keys[k] != other.keys[k]) {
                    return false;
                }
            }
            return true;
        }

        int kindOf(int k) {
            return (int) part(k, KIND_AT, KIND_BITS);
        }

        int firstOf(int k) {
            return (int) part(k, A_AT, SHAPE_BITS);
        }

        int secondOf(int k) {
            return (int) part(k, 0, SHAPE_BITS) + NONE;
        }

        /** Kind and shapes alone: what a violation is known by when it is waived. */
        int markOf(int k) {
            return (int) part(k, 0, Y_AT);
        }

        long xOf(int k) {
            return part(k, X_AT, PLACE_BITS) - FARTHEST;
        }

        long yOf(int k) {
            return part(k, Y_AT, PLACE_BITS) - FARTHEST;
        }

        int layerOf(int k) {
            return (int) (keys[k] >> LAYER_AT);
        }

        private long part(int k, int at, int bits) {
            return (keys[k] >> at) & ((1L << bits) - 1);
        }
    }
}
