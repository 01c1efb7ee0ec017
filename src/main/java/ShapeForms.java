/**
 * Flat shapes of whole nanometres. Every shape is a core and a radius; every core is kept as corners
 * joined by sides, filled or not, so that one set of exact rules serves circles, boxes, polygons and traces.
 */
public final class ShapeForms {
    public static final int NONE = -1;

    private static final int MOST_SHAPES = 40;
    private static final int MOST_CORNERS = 48;
    private static final int CIRCLE = 0;
    private static final int BOX = 1;
    private static final int POLYGON = 2;
    private static final int TRACE = 3;
    private static final int GROWN_POLYGON = 4;
    private static final int SIDES_OF_BOX = 4;
    private static final long FARTHEST_PLACE = 500_000_000L;
    private static final long GREATEST_LENGTH = 1_000_000_000L;

    private final Shape[] shapes;
    private int made;

    public ShapeForms() {
        shapes = new Shape[MOST_SHAPES];
        made = 0;
    }

    public int circle(long x, long y, long r) throws IllegalArgumentException {
        needPlace(x, y);
        needLength(r);
        Shape shape = new Shape(CIRCLE, false, r);
        shape.addCorner(x, y);
        return keep(shape);
    }

    public int box(long x, long y, long w, long h, long r) throws IllegalArgumentException {
        needPlace(x, y);
        needLength(w);
        needLength(h);
        needPlace(x + w, y + h);
        if (r < 0 || r > w / 2 || r > h / 2) {
            throw new IllegalArgumentException("the rounding is not 0 to the half of both sides");
        }
        return keep(roundedBox(x + r, y + r, x + w - r, y + h - r, r));
    }

    public int polygon() {
        return keep(new Shape(POLYGON, true, 0));
    }

    public int trace(long width) throws IllegalArgumentException {
        if (width < 0 || width > 2 * GREATEST_LENGTH || width % 2 != 0) {
            throw new IllegalArgumentException("no even width from 0 to 2,000,000,000");
        }
        return keep(new Shape(TRACE, false, width / 2));
    }

    public boolean corner(int shape, long x, long y)
            throws IndexOutOfBoundsException, IllegalStateException, IllegalArgumentException {
        Shape known = find(shape);
        if (!known.takesCorners()) {
            throw new IllegalStateException("the shape takes no corners");
        }
        needPlace(x, y);
        return known.addCorner(x, y);
    }

    public boolean ring(int shape) throws IndexOutOfBoundsException, IllegalStateException {
        Shape known = find(shape);
        if (!known.hasOpenRing()) {
            throw new IllegalStateException("no polygon with corners behind its last ring");
        }
        return known.closeRing();
    }

    public int grow(int shape, long by)
            throws IndexOutOfBoundsException, IllegalStateException, IllegalArgumentException {
        Shape known = find(shape);
        needWhole(known);
        if (by < -GREATEST_LENGTH || by > GREATEST_LENGTH) {
            throw new IllegalArgumentException("not -1,000,000,000 to 1,000,000,000");
        }
        long radius = known.radius + by;
        if (!isLength(radius)) {
            return NONE;
        }
        return keep(known.copyWithRadius(radius));
    }

    public boolean inside(int shape, long x, long y)
            throws IndexOutOfBoundsException, IllegalStateException, IllegalArgumentException {
        Shape known = find(shape);
        needWhole(known);
        needPlace(x, y);
        return known.compareToSides(x, y, known.radius) <= 0 || known.encloses(x, y);
    }

    public int nearer(int a, int b, long distance)
            throws IndexOutOfBoundsException, IllegalStateException, IllegalArgumentException {
        Shape one = find(a);
        Shape other = find(b);
        needWhole(one);
        needWhole(other);
        needLength(distance);
        int order = Pair.compareCores(one, other, one.radius + other.radius + distance);
        // Shapes that overlap have the distance 0, however deep they lie in one another.
        if (distance == 0) {
            return order <= 0 ? 0 : -1;
        }
        return -order;
    }

    public long boxOf(int shape, int side) throws IndexOutOfBoundsException, IllegalStateException {
        Shape known = find(shape);
        if (side < 0 || side >= SIDES_OF_BOX) {
            throw new IndexOutOfBoundsException("no such side");
        }
        needWhole(known);
        return known.outermost(side);
    }

    public int turn(int shape, int quarters, boolean mirrored)
            throws IndexOutOfBoundsException, IllegalStateException {
        Shape known = find(shape);
        needWhole(known);
        Shape copy = known.copyWithRadius(known.radius);
        if (mirrored) {
            copy.mirrorCorners();
        }
        int forward = Math.floorMod(quarters, 4);
        for (int quarter = 0; quarter < forward; quarter++) {
            copy.turnCornersOnce();
        }
        return keep(copy);
    }

    public int kind(int shape) throws IndexOutOfBoundsException {
        Shape known = find(shape);
        return known.form == POLYGON && known.radius > 0 ? GROWN_POLYGON : known.form;
    }

    public boolean same(int a, int b) throws IndexOutOfBoundsException, IllegalStateException {
        Shape one = find(a);
        Shape other = find(b);
        needWhole(one);
        needWhole(other);
        return one.radius == other.radius && Pair.haveOneCore(one, other);
    }

    private static boolean isPlace(long x, long y) {
        return x >= -FARTHEST_PLACE && x <= FARTHEST_PLACE && y >= -FARTHEST_PLACE && y <= FARTHEST_PLACE;
    }

    private static boolean isLength(long length) {
        return length >= 0 && length <= GREATEST_LENGTH;
    }

    private static void needPlace(long x, long y) {
        if (!isPlace(x, y)) {
            throw new IllegalArgumentException("no place");
        }
    }

    private static void needLength(long length) {
        if (!isLength(length)) {
            throw new IllegalArgumentException("not 0 to 1,000,000,000");
        }
    }

    private static void needWhole(Shape shape) {
        if (!shape.isWhole()) {
            throw new IllegalStateException("the shape is not whole");
        }
    }

    private Shape find(int number) {
        Shape shape = number < 0 || number >= made ? null : shapes[number];
        if (shape == null) {
            throw new IndexOutOfBoundsException("no such shape");
        }
        return shape;
    }

    private int keep(Shape shape) {
        if (made >= MOST_SHAPES) {
            return NONE;
        }
        shapes[made] = shape;
        made++;
        return made - 1;
    }

    private static Shape roundedBox(long left, long low, long right, long high, long radius) {
        boolean filled = left < right && low < high;
        Shape shape = new Shape(BOX, filled, radius);
        shape.addCorner(left, low);
        // Without an area the core is one piece or one place: its two ends tell all of it.
        if (filled) {
            shape.addCorner(right, low);
        }
        shape.addCorner(right, high);
        if (filled) {
            shape.addCorner(left, high);
        }
        return shape;
    }

    /**
     * A core and a radius. Side i goes from corner i to the next one of its ring; in a core that is not
     * filled the last corner's side is that corner alone, so that a single place has a side, too.
     */
    private static final class Shape {
        final int form;
        final boolean filled;
        final long radius;
        final long[] xs;
        final long[] ys;
        /** For each side, the corner where it ends. */
        final int[] ends;
        int count;
        /** The first corner behind a polygon's last ring; 0 for all other forms. */
        int open;

        Shape(int form, boolean filled, long radius) {
            this.form = form;
            this.filled = filled;
            this.radius = radius;
            xs = new long[MOST_CORNERS];
            ys = new long[MOST_CORNERS];
            ends = new int[MOST_CORNERS];
            count = 0;
            open = 0;
        }

        boolean isWhole() {
            return count > 0 && !hasOpenRing();
        }

        boolean hasOpenRing() {
            return form == POLYGON && open < count;
        }

        boolean takesCorners() {
            return form == TRACE || form == POLYGON && radius == 0;
        }

        boolean addCorner(long x, long y) {
            if (count >= MOST_CORNERS) {
                return false;
            }
            if (count > open) {
                if (xs[count - 1] == x && ys[count - 1] == y) {
                    return false;
                }
                ends[count - 1] = count;
            }
            xs[count] = x;
            ys[count] = y;
            ends[count] = filled ? open : count;
            count++;
            return true;
        }

        boolean closeRing() {
            if (isOpenRingEmpty()) {
                count = open;
                return open > 0;
            }
            if (isOpenRingCrossing()) {
                count = open;
                return false;
            }
            open = count;
            return true;
        }

        boolean isOpenRingEmpty() {
            // The first two corners are never one place, so their side tells the line.
            for (int i = open + 2; i < count; i++) {
                if (cross(open, xs[i], ys[i]) != 0) {
                    return false;
                }
            }
            return true;
        }

        /**
         * Two sides that follow one another need no look: where one runs back over the other, the side behind
         * or before the two begins or ends on one of them, or the ring is a triangle on one line, so EMPTY.
         */
        boolean isOpenRingCrossing() {
            for (int i = open; i < count; i++) {
                for (int j = 0; j < i; j++) {
                    boolean follow = ends[i] == j || ends[j] == i;
                    if (!follow && Pair.sidesMeet(this, i, this, j)) {
                        return true;
                    }
                }
            }
            return false;
        }

        Shape copyWithRadius(long newRadius) {
            Shape copy = new Shape(form, filled, newRadius);
            for (int i = 0; i < count; i++) {
                copy.xs[i] = xs[i];
                copy.ys[i] = ys[i];
                copy.ends[i] = ends[i];
            }
            copy.count = count;
            copy.open = open;
            return copy;
        }

        void mirrorCorners() {
            for (int i = 0; i < count; i++) {
                xs[i] = -xs[i];
            }
        }

        void turnCornersOnce() {
            for (int i = 0; i < count; i++) {
                long x = xs[i];
                xs[i] = -ys[i];
                ys[i] = x;
            }
        }

        /** Points on a ring belong to the core, so the outermost corners are the core's outermost points. */
        long outermost(int side) {
            long[] row = side % 2 == 0 ? xs : ys;
            long least = row[0];
            long greatest = row[0];
            for (int i = 1; i < count; i++) {
                least = Math.min(least, row[i]);
                greatest = Math.max(greatest, row[i]);
            }
            return side < 2 ? least - radius : greatest + radius;
        }

        /** Above 0 when the place is left of the side, 0 on its line; at most 2 * 10^18, so a long holds it. */
        long cross(int side, long x, long y) {
            int end = ends[side];
            return (xs[end] - xs[side]) * (y - ys[side]) - (ys[end] - ys[side]) * (x - xs[side]);
        }

        /** Whether a place that is on no side lies in the filled core: a ray to the right tells by its crossings. */
        boolean encloses(long x, long y) {
            boolean odd = false;
            for (int side = 0; filled && side < count; side++) {
                boolean startsAbove = ys[side] > y;
                boolean endsAbove = ys[ends[side]] > y;
                if (startsAbove != endsAbove && (cross(side, x, y) > 0) == endsAbove) {
                    odd = !odd;
                }
            }
            return odd;
        }

        boolean enclosesCornerOf(Shape other) {
            for (int i = 0; i < other.count; i++) {
                if (encloses(other.xs[i], other.ys[i])) {
                    return true;
                }
            }
            return false;
        }

        /** -1, 0, 1: the place is nearer to the sides than reach, just that far, farther. */
        int compareToSides(long x, long y, long reach) {
            int least = 1;
            for (int side = 0; side < count && least >= 0; side++) {
                least = Math.min(least, compareToSide(side, x, y, reach));
            }
            return least;
        }

        private int compareToSide(int side, long x, long y, long reach) {
            int end = ends[side];
            long alongX = xs[end] - xs[side];
            long alongY = ys[end] - ys[side];
            long length = alongX * alongX + alongY * alongY;
            long foot = alongX * (x - xs[side]) + alongY * (y - ys[side]);
            // reach is at most 3 * 10^9: its square is still a long.
            if (foot <= 0) {
                return Long.compare(squareTo(side, x, y), reach * reach);
            }
            if (foot >= length) {
                return Long.compare(squareTo(end, x, y), reach * reach);
            }
            long across = Math.abs(cross(side, x, y));
            return Wide.compareProducts(across, across, reach * reach, length);
        }

        private long squareTo(int i, long x, long y) {
            return (x - xs[i]) * (x - xs[i]) + (y - ys[i]) * (y - ys[i]);
        }

        /** Whether all points of another shape's side lie on this shape's sides. */
        boolean coversSide(Shape other, int side) {
            int end = other.ends[side];
            // A line that is not upright has each x once: then x tells the points in their order, else y.
            boolean byX = other.xs[side] != other.xs[end];
            long from = byX ? other.xs[side] : other.ys[side];
            long to = byX ? other.xs[end] : other.ys[end];
            if (from == to) {
                return compareToSides(other.xs[side], other.ys[side], 0) == 0;
            }
            long last = Math.max(from, to);
            long covered = Math.min(from, to);
            // Each round but the last uses up one side at least.
            for (int round = 0; round <= count && covered < last; round++) {
                covered = coveredFrom(covered, byX, other, side);
            }
            return covered >= last;
        }

        /** How far, from a covered point on, single sides of this shape on the line of the other's side reach. */
        private long coveredFrom(long covered, boolean byX, Shape other, int line) {
            long[] row = byX ? xs : ys;
            long farthest = covered;
            for (int side = 0; side < count; side++) {
                int end = ends[side];
                long low = Math.min(row[side], row[end]);
                long high = Math.max(row[side], row[end]);
                if (low <= covered && high > farthest
                        && other.cross(line, xs[side], ys[side]) == 0
                        && other.cross(line, xs[end], ys[end]) == 0) {
                    farthest = high;
                }
            }
            return farthest;
        }
    }

    /** What is asked of two shapes. */
    private static final class Pair {
        /** -1, 0, 1: the cores' distance is below reach, reach, above it. */
        static int compareCores(Shape a, Shape b, long reach) {
            if (coresMeet(a, b)) {
                return Long.compare(0, reach);
            }
            // Of two pieces that don't meet, one has an end among their nearest points.
            return Math.min(compareCorners(a, b, reach), compareCorners(b, a, reach));
        }

        private static int compareCorners(Shape a, Shape b, long reach) {
            int least = 1;
            for (int i = 0; i < a.count && least >= 0; i++) {
                least = Math.min(least, b.compareToSides(a.xs[i], a.ys[i], reach));
            }
            return least;
        }

        private static boolean coresMeet(Shape a, Shape b) {
            for (int i = 0; i < a.count; i++) {
                for (int j = 0; j < b.count; j++) {
                    if (sidesMeet(a, i, b, j)) {
                        return true;
                    }
                }
            }
            // Where no sides meet, a ring or trace lies wholly in the other core or wholly out of it.
            return a.enclosesCornerOf(b) || b.enclosesCornerOf(a);
        }

        static boolean sidesMeet(Shape a, int side, Shape b, int other) {
            int end = a.ends[side];
            int otherEnd = b.ends[other];
            // The spans settle pieces on one line, and places; the lines settle all others.
            return spansMeet(a.xs[side], a.xs[end], b.xs[other], b.xs[otherEnd])
                    && spansMeet(a.ys[side], a.ys[end], b.ys[other], b.ys[otherEnd])
                    && !passesBeside(a, side, b, other) && !passesBeside(b, other, a, side);
        }

        private static boolean spansMeet(long a, long b, long c, long d) {
            return Math.max(Math.min(a, b), Math.min(c, d)) <= Math.min(Math.max(a, b), Math.max(c, d));
        }

        /** Whether b's side has no point on the line of a's side. */
        private static boolean passesBeside(Shape a, int side, Shape b, int other) {
            int otherEnd = b.ends[other];
            long first = a.cross(side, b.xs[other], b.ys[other]);
            long second = a.cross(side, b.xs[otherEnd], b.ys[otherEnd]);
            return first < 0 && second < 0 || first > 0 && second > 0;
        }

        /** A filled core is told by its edge, which is all its rings; any other core is its sides. */
        static boolean haveOneCore(Shape a, Shape b) {
            return a.filled == b.filled && coversAll(a, b) && coversAll(b, a);
        }

        private static boolean coversAll(Shape a, Shape b) {
            for (int side = 0; side < b.count; side++) {
                if (!a.coversSide(b, side)) {
                    return false;
                }
            }
            return true;
        }
    }

    /** Products of two longs that no long holds. */
    private static final class Wide {
        private static final long LOW_HALF = 0xFFFFFFFFL;
        private static final long HALF_THE_RANGE = 1L << 63;

        /** Compares a * b with c * d; none of the four is below 0. */
        static int compareProducts(long a, long b, long c, long d) {
            int order = Long.compare(highPart(a, b), highPart(c, d));
            if (order != 0) {
                return order;
            }
            // The low parts have no sign: moved by half their range, they compare as longs do.
            return Long.compare(a * b + HALF_THE_RANGE, c * d + HALF_THE_RANGE);
        }

        private static long highPart(long a, long b) {
            long aLow = a & LOW_HALF;
            long aHigh = a >>> 32;
            long bLow = b & LOW_HALF;
            long bHigh = b >>> 32;
            long middle = aHigh * bLow + (aLow * bLow >>> 32);
            long carried = aLow * bHigh + (middle & LOW_HALF);
            return aHigh * bHigh + (middle >>> 32) + (carried >>> 32);
        }
    }
}
