import java.math.BigInteger;
import java.util.ArrayList;
import java.util.List;
import java.util.TreeMap;

/**
 * The document once more, slow and plain: fractions of any size, crossings by solving for them, cores
 * compared as sets of merged pieces on lines. It shares no rule with ShapeForms but the document's words.
 */
final class Model {
    private static final long FAR = 500_000_000L;
    private static final long BILLION = 1_000_000_000L;

    /** A fraction whose lower part is above 0. */
    record Fraction(BigInteger over, BigInteger under) {
        static Fraction of(BigInteger over, BigInteger under) {
            return under.signum() < 0 ? new Fraction(over.negate(), under.negate()) : new Fraction(over, under);
        }

        static Fraction whole(long number) {
            return new Fraction(big(number), BigInteger.ONE);
        }

        int compare(Fraction other) {
            return over.multiply(other.under).compareTo(other.over.multiply(under));
        }
    }

    record Place(long x, long y) {
    }

    record Side(Place from, Place to) {
        boolean isPoint() {
            return from.equals(to);
        }
    }

    private static final class Shape {
        int form;
        long radius;
        final List<List<Place>> rings = new ArrayList<>();
        final List<Place> open = new ArrayList<>();
    }

    private final List<Shape> shapes = new ArrayList<>();

    private static BigInteger big(long number) {
        return BigInteger.valueOf(number);
    }

    // ---- the calls

    int circle(long x, long y, long r) {
        argument(place(x) && place(y) && r >= 0 && r <= BILLION);
        Shape shape = shape(0, r);
        shape.open.add(new Place(x, y));
        return keep(shape);
    }

    int box(long x, long y, long w, long h, long r) {
        argument(place(x) && place(y) && w >= 0 && w <= BILLION && h >= 0 && h <= BILLION);
        argument(place(x + w) && place(y + h) && r >= 0 && r <= BILLION && 2 * r <= w && 2 * r <= h);
        Shape shape = shape(1, r);
        shape.open.add(new Place(x + r, y + r));
        shape.open.add(new Place(x + w - r, y + h - r));
        return keep(shape);
    }

    int polygon() {
        return keep(shape(2, 0));
    }

    int trace(long width) {
        argument(width >= 0 && width <= 2 * BILLION && (width & 1) == 0);
        return keep(shape(3, width / 2));
    }

    boolean corner(int number, long x, long y) {
        Shape shape = known(number);
        state(shape.form == 3 || shape.form == 2 && shape.radius == 0);
        argument(place(x) && place(y));
        int corners = shape.open.size();
        for (List<Place> ring : shape.rings) {
            corners += ring.size();
        }
        Place last = shape.open.isEmpty() ? null : shape.open.get(shape.open.size() - 1);
        if (corners == 48 || new Place(x, y).equals(last)) {
            return false;
        }
        return shape.open.add(new Place(x, y));
    }

    boolean ring(int number) {
        Shape shape = known(number);
        state(shape.form == 2 && !shape.open.isEmpty());
        List<Place> ring = new ArrayList<>(shape.open);
        shape.open.clear();
        if (onOneLine(ring)) {
            return !shape.rings.isEmpty();
        }
        if (crossesItself(ring) || crossesOthers(ring, shape.rings)) {
            return false;
        }
        return shape.rings.add(ring);
    }

    int grow(int number, long by) {
        Shape shape = whole(known(number));
        argument(by >= -BILLION && by <= BILLION);
        long radius = shape.radius + by;
        return radius < 0 || radius > BILLION ? -1 : keep(turned(shape, radius, 0, false));
    }

    boolean inside(int number, long x, long y) {
        Shape shape = whole(known(number));
        argument(place(x) && place(y));
        Place place = new Place(x, y);
        return inArea(shape, place) || squareToSides(shape, place).compare(square(shape.radius)) <= 0;
    }

    int nearer(int a, int b, long distance) {
        Shape one = known(a);
        Shape other = known(b);
        whole(one);
        whole(other);
        argument(distance >= 0 && distance <= BILLION);
        Fraction apart = squareOfCores(one, other);
        boolean overlap = apart.compare(square(one.radius + other.radius)) <= 0;
        if (overlap) {
            return distance > 0 ? 1 : 0;
        }
        return -apart.compare(square(one.radius + other.radius + distance));
    }

    long boxOf(int number, int side) {
        Shape shape = known(number);
        if (side < 0 || side > 3) {
            throw new IndexOutOfBoundsException();
        }
        whole(shape);
        long best = side < 2 ? Long.MAX_VALUE : Long.MIN_VALUE;
        for (Side piece : sides(shape)) {
            for (Place place : List.of(piece.from, piece.to)) {
                long value = side % 2 == 0 ? place.x : place.y;
                best = side < 2 ? Math.min(best, value) : Math.max(best, value);
            }
        }
        return side < 2 ? best - shape.radius : best + shape.radius;
    }

    int turn(int number, int quarters, boolean mirrored) {
        Shape shape = whole(known(number));
        return keep(turned(shape, shape.radius, quarters, mirrored));
    }

    int kind(int number) {
        Shape shape = known(number);
        return shape.form == 2 && shape.radius != 0 ? 4 : shape.form;
    }

    boolean same(int a, int b) {
        Shape one = known(a);
        Shape other = known(b);
        whole(one);
        whole(other);
        return one.radius == other.radius && coreText(one).equals(coreText(other));
    }

    // ---- what a test may ask beside the calls

    int count() {
        return shapes.size();
    }

    /** The whole part of the two shapes' distance, or 0 when one is not whole. */
    long wholeDistance(int a, int b) {
        Shape one = shapes.get(a);
        Shape other = shapes.get(b);
        if (!isWhole(one) || !isWhole(other)) {
            return 0;
        }
        Fraction apart = squareOfCores(one, other);
        long cores = apart.over.divide(apart.under).sqrt().longValueExact();
        return Math.max(0, cores - one.radius - other.radius);
    }

    // ---- words of the document

    private static boolean place(long number) {
        return number >= -FAR && number <= FAR;
    }

    private static void argument(boolean good) {
        if (!good) {
            throw new IllegalArgumentException();
        }
    }

    private static void state(boolean good) {
        if (!good) {
            throw new IllegalStateException();
        }
    }

    private static Shape shape(int form, long radius) {
        Shape shape = new Shape();
        shape.form = form;
        shape.radius = radius;
        return shape;
    }

    private int keep(Shape shape) {
        if (shapes.size() == 40) {
            return -1;
        }
        shapes.add(shape);
        return shapes.size() - 1;
    }

    private Shape known(int number) {
        if (number < 0 || number >= shapes.size()) {
            throw new IndexOutOfBoundsException();
        }
        return shapes.get(number);
    }

    private static boolean isWhole(Shape shape) {
        return shape.form == 2 ? !shape.rings.isEmpty() && shape.open.isEmpty() : !shape.open.isEmpty();
    }

    private static Shape whole(Shape shape) {
        state(isWhole(shape));
        return shape;
    }

    private static Place turned(Place place, int quarters, boolean mirrored) {
        long x = mirrored ? -place.x : place.x;
        long y = place.y;
        switch (((quarters % 4) + 4) % 4) {
            case 1: return new Place(-y, x);
            case 2: return new Place(-x, -y);
            case 3: return new Place(y, -x);
            default: return new Place(x, y);
        }
    }

    private static List<Place> turned(List<Place> places, int quarters, boolean mirrored) {
        List<Place> result = new ArrayList<>();
        for (Place place : places) {
            result.add(turned(place, quarters, mirrored));
        }
        return result;
    }

    private static Shape turned(Shape shape, long radius, int quarters, boolean mirrored) {
        Shape result = shape(shape.form, radius);
        result.open.addAll(turned(shape.open, quarters, mirrored));
        for (List<Place> ring : shape.rings) {
            result.rings.add(turned(ring, quarters, mirrored));
        }
        return result;
    }

    // ---- rings

    private static boolean onOneLine(List<Place> places) {
        for (Place a : places) {
            for (Place b : places) {
                for (Place c : places) {
                    BigInteger one = big(b.x - a.x).multiply(big(c.y - a.y));
                    if (!one.equals(big(b.y - a.y).multiply(big(c.x - a.x)))) {
                        return false;
                    }
                }
            }
        }
        return true;
    }

    private static List<Side> ringSides(List<Place> ring) {
        List<Side> sides = new ArrayList<>();
        for (int i = 0; i < ring.size(); i++) {
            sides.add(new Side(ring.get(i), ring.get((i + 1) % ring.size())));
        }
        return sides;
    }

    private static boolean crossesItself(List<Place> ring) {
        List<Side> sides = ringSides(ring);
        int n = sides.size();
        for (int i = 0; i < n; i++) {
            for (int j = 0; j < n; j++) {
                boolean follows = j == (i + 1) % n;
                boolean leads = i == (j + 1) % n;
                if (i == j || leads) {
                    continue;
                }
                if (follows ? overlapBehindCorner(sides.get(i), sides.get(j)) : meet(sides.get(i), sides.get(j))) {
                    return true;
                }
            }
        }
        return false;
    }

    /** Two sides with a corner in common have another point in common only if an end of one lies on the other. */
    private static boolean overlapBehindCorner(Side side, Side next) {
        boolean back = !next.to.equals(next.from) && squareTo(side, next.to).over.signum() == 0;
        boolean on = !side.from.equals(side.to) && squareTo(next, side.from).over.signum() == 0;
        return back || on;
    }

    private static boolean crossesOthers(List<Place> ring, List<List<Place>> rings) {
        for (List<Place> other : rings) {
            for (Side a : ringSides(ring)) {
                for (Side b : ringSides(other)) {
                    if (meet(a, b)) {
                        return true;
                    }
                }
            }
        }
        return false;
    }

    // ---- cores

    private static boolean hasArea(Shape shape) {
        return shape.form == 2 || shape.form == 1
                && shape.open.get(0).x != shape.open.get(1).x && shape.open.get(0).y != shape.open.get(1).y;
    }

    private static List<List<Place>> ringsOf(Shape shape) {
        if (shape.form != 1) {
            return shape.rings;
        }
        Place low = shape.open.get(0);
        Place high = shape.open.get(1);
        // A turned box's first corner need not be the lowest one: the ring is the same.
        return List.of(List.of(low, new Place(low.x, high.y), high, new Place(high.x, low.y)));
    }

    private static List<Side> sides(Shape shape) {
        List<Side> sides = new ArrayList<>();
        if (hasArea(shape)) {
            for (List<Place> ring : ringsOf(shape)) {
                sides.addAll(ringSides(ring));
            }
            return sides;
        }
        for (int i = 0; i + 1 < shape.open.size(); i++) {
            sides.add(new Side(shape.open.get(i), shape.open.get(i + 1)));
        }
        if (sides.isEmpty()) {
            sides.add(new Side(shape.open.get(0), shape.open.get(0)));
        }
        return sides;
    }

    private static Fraction square(long number) {
        return new Fraction(big(number).pow(2), BigInteger.ONE);
    }

    private static Fraction squareTo(Side side, Place place) {
        BigInteger dx = big(side.to.x - side.from.x);
        BigInteger dy = big(side.to.y - side.from.y);
        BigInteger vx = big(place.x - side.from.x);
        BigInteger vy = big(place.y - side.from.y);
        BigInteger length = dx.pow(2).add(dy.pow(2));
        BigInteger foot = dx.multiply(vx).add(dy.multiply(vy));
        if (length.signum() == 0) {
            return new Fraction(vx.pow(2).add(vy.pow(2)), BigInteger.ONE);
        }
        BigInteger clamped = foot.max(BigInteger.ZERO).min(length);
        BigInteger gapX = vx.multiply(length).subtract(clamped.multiply(dx));
        BigInteger gapY = vy.multiply(length).subtract(clamped.multiply(dy));
        return new Fraction(gapX.pow(2).add(gapY.pow(2)), length.pow(2));
    }

    private static Fraction squareToSides(Shape shape, Place place) {
        Fraction least = null;
        for (Side side : sides(shape)) {
            Fraction square = squareTo(side, place);
            least = least == null || square.compare(least) < 0 ? square : least;
        }
        return least;
    }

    private static boolean meet(Side a, Side b) {
        BigInteger ax = big(a.to.x - a.from.x);
        BigInteger ay = big(a.to.y - a.from.y);
        BigInteger bx = big(b.to.x - b.from.x);
        BigInteger by = big(b.to.y - b.from.y);
        BigInteger gx = big(b.from.x - a.from.x);
        BigInteger gy = big(b.from.y - a.from.y);
        BigInteger under = ax.multiply(by).subtract(ay.multiply(bx));
        if (under.signum() == 0) {
            return squareTo(a, b.from).over.signum() == 0 || squareTo(a, b.to).over.signum() == 0
                    || squareTo(b, a.from).over.signum() == 0 || squareTo(b, a.to).over.signum() == 0;
        }
        Fraction onA = Fraction.of(gx.multiply(by).subtract(gy.multiply(bx)), under);
        Fraction onB = Fraction.of(gx.multiply(ay).subtract(gy.multiply(ax)), under);
        return isPart(onA) && isPart(onB);
    }

    private static boolean isPart(Fraction fraction) {
        return fraction.over.signum() >= 0 && fraction.over.compareTo(fraction.under) <= 0;
    }

    private static boolean inArea(Shape shape, Place place) {
        if (!hasArea(shape)) {
            return false;
        }
        int rings = 0;
        for (List<Place> ring : ringsOf(shape)) {
            int over = 0;
            for (Side side : ringSides(ring)) {
                over += passesOver(side, place) ? 1 : 0;
            }
            rings += over % 2;
        }
        return rings % 2 == 1;
    }

    /** Whether a ray straight up from the place crosses the side. */
    private static boolean passesOver(Side side, Place place) {
        if ((side.from.x > place.x) == (side.to.x > place.x)) {
            return false;
        }
        BigInteger run = big(side.to.x - side.from.x);
        BigInteger rise = big(side.to.y - side.from.y).multiply(big(place.x - side.from.x));
        Fraction height = Fraction.of(rise.add(run.multiply(big(side.from.y))), run);
        return height.compare(Fraction.whole(place.y)) > 0;
    }

    private static Fraction squareOfCores(Shape a, Shape b) {
        Fraction least = null;
        for (Side one : sides(a)) {
            if (inArea(b, one.from)) {
                return Fraction.whole(0);
            }
            for (Side other : sides(b)) {
                if (meet(one, other) || inArea(a, other.from)) {
                    return Fraction.whole(0);
                }
                for (Fraction square : List.of(squareTo(one, other.from), squareTo(one, other.to),
                        squareTo(other, one.from), squareTo(other, one.to))) {
                    least = least == null || square.compare(least) < 0 ? square : least;
                }
            }
        }
        return least;
    }

    /** A text that is the same for the same core: lines in order, on each its merged pieces. */
    private static String coreText(Shape shape) {
        TreeMap<String, List<long[]>> lines = new TreeMap<>();
        for (Side side : sides(shape)) {
            boolean upright = side.from.x == side.to.x;
            long a = upright ? side.from.y : side.from.x;
            long b = upright ? side.to.y : side.to.x;
            lines.computeIfAbsent(lineText(side), key -> new ArrayList<>())
                    .add(new long[] {Math.min(a, b), Math.max(a, b)});
        }
        StringBuilder text = new StringBuilder(hasArea(shape) ? "area" : "pieces");
        for (String line : lines.keySet()) {
            text.append('|').append(line).append(':').append(mergedText(lines.get(line)));
        }
        return text.toString();
    }

    private static String lineText(Side side) {
        if (side.isPoint()) {
            return "place " + side.from.x;
        }
        BigInteger a = big(side.to.y - side.from.y);
        BigInteger b = big(side.from.x - side.to.x);
        BigInteger c = a.multiply(big(side.from.x)).add(b.multiply(big(side.from.y)));
        BigInteger divisor = a.gcd(b);
        if (a.signum() < 0 || a.signum() == 0 && b.signum() < 0) {
            divisor = divisor.negate();
        }
        return a.divide(divisor) + "," + b.divide(divisor) + "," + c.divide(divisor);
    }

    private static String mergedText(List<long[]> pieces) {
        pieces.sort((p, q) -> Long.compare(p[0], q[0]));
        StringBuilder text = new StringBuilder();
        long from = pieces.get(0)[0];
        long to = pieces.get(0)[1];
        for (long[] piece : pieces) {
            if (piece[0] > to) {
                text.append(from).append("..").append(to).append(' ');
                from = piece[0];
            }
            to = Math.max(to, piece[1]);
        }
        return text.append(from).append("..").append(to).toString();
    }
}
