/** Promise 10: nearer. */
public final class NearerTest {
    public static void main(String[] args) {
        circles();
        exactCorners();
        polygons();
        isles();
        traces();
        touchingByOne();
        byLessThanOne();
        great();
        slantAndGreat();
        full();
        wrongNumbers();
        wrongTwice();
        Check.end("NearerTest");
    }

    /** The distance of two shapes is just this one, told from both sides. */
    private static void apart(String what, ShapeForms forms, int a, int b, long distance) {
        between(what, forms, a, b, distance, distance);
    }

    /** The distance is at least the first number and at most the second, and neither if they differ. */
    private static void between(String what, ShapeForms forms, int a, int b, long low, long high) {
        int atEnd = low == high ? 0 : 1;
        Check.due("10: " + what, low == high ? 0 : -1, () -> forms.nearer(a, b, low));
        Check.due("10: " + what + ", turned round", atEnd, () -> forms.nearer(b, a, high));
        if (low > 0) {
            Check.due("10: " + what + ", one less", -1, () -> forms.nearer(a, b, low - 1));
        }
        Check.due("10: " + what + ", one more", 1, () -> forms.nearer(b, a, high + 1));
    }

    private static void circles() {
        ShapeForms forms = new ShapeForms();
        int circle = forms.circle(0, 0, 5);
        apart("touching circles", forms, circle, forms.circle(13, 0, 8), 0);
        apart("one in the other", forms, circle, forms.circle(1, 0, 2), 0);
        apart("a shape and itself", forms, circle, circle, 0);
        apart("30, 40", forms, circle, forms.circle(30, 40, 10), 35);
        between("10, 11", forms, circle, forms.circle(10, 11, 0), 9, 10);
        int point = forms.circle(3, 3, 0);
        apart("a place and itself", forms, point, point, 0);
        apart("two places", forms, point, forms.circle(3, 4, 0), 1);
    }

    private static void exactCorners() {
        ShapeForms forms = new ShapeForms();
        int box = forms.box(0, 0, 10, 10, 0);
        apart("box and box, a corner each", forms, box, forms.box(13, 14, 5, 5, 0), 5);
        apart("box and box, side by side", forms, box, forms.box(12, -3, 5, 30, 0), 2);
        apart("box in box", forms, box, forms.box(3, 3, 2, 2, 0), 0);
        apart("box across box", forms, box, forms.box(-5, 4, 30, 2, 0), 0);
        apart("boxes with a corner in common", forms, box, forms.box(10, 10, 3, 3, 0), 0);
        apart("round box and circle", forms, forms.box(20, 20, 10, 10, 3), forms.circle(36, 39, 2), 10);
        apart("box and a piece", forms, box, forms.box(12, 4, 9, 0, 0), 2);
        apart("slant side, 3 : 4 : 5", forms, Make.trace(forms, 0, 100, 0, 140, 30), forms.circle(117, 19, 1), 4);
        between("slant side, no whole distance", forms, Make.trace(forms, 0, 200, 0, 300, 1),
                forms.circle(250, 7, 0), 6, 7);
    }

    private static void polygons() {
        ShapeForms forms = new ShapeForms();
        int frame = Make.frame(forms);
        int grown = forms.grow(frame, 3);
        int pin = forms.circle(10, 10, 1);
        apart("in the hole", forms, frame, pin, 4);
        apart("in the shrunk hole", forms, grown, pin, 1);
        apart("in the frame's flesh", forms, frame, forms.circle(2, 2, 0), 0);
        apart("on the hole's edge", forms, frame, forms.circle(5, 7, 0), 0);
        apart("a box in the hole", forms, frame, forms.box(7, 8, 5, 5, 0), 2);
        apart("a box in the flesh", forms, frame, forms.box(1, 1, 2, 2, 0), 0);
        apart("a box around all", forms, frame, forms.box(-9, -9, 40, 40, 0), 0);
        int ring = Make.polygon(forms, -9, -9, 40, -9, 40, 40, -9, 40);
        Make.ring(forms, ring, -4, -4, 26, -4, 26, 26, -4, 26);
        apart("a wider frame around it", forms, frame, ring, 4);
        apart("grown, the frames touch", forms, grown, forms.grow(ring, 1), 0);
    }

    private static void isles() {
        ShapeForms forms = new ShapeForms();
        int two = Make.polygon(forms, 0, 0, 10, 0, 0, 10);
        Make.ring(forms, two, 100, 0, 120, 0, 120, 20, 100, 20);
        apart("a box in the second isle", forms, two, forms.box(105, 5, 3, 3, 0), 0);
        apart("a circle by the second isle", forms, two, forms.circle(130, 10, 4), 6);
        apart("a trace in the second isle", forms, two, Make.trace(forms, 2, 110, 10, 111, 11), 0);
        int around = Make.polygon(forms, 300, 300, 310, 300, 300, 310);
        Make.ring(forms, around, 90, -10, 130, -10, 130, 30, 90, 30);
        apart("the second isle in the other's second isle", forms, two, around, 0);
        int hole = Make.polygon(forms, 200, 0, 220, 0, 220, 20, 200, 20);
        Make.ring(forms, hole, 202, 2, 218, 2, 218, 18, 202, 18);
        Make.ring(forms, hole, 208, 8, 212, 8, 212, 12, 208, 12);
        apart("between hole and isle", forms, hole, forms.circle(206, 10, 0), 2);
        apart("in the isle in the hole", forms, hole, forms.circle(210, 10, 0), 0);
    }

    private static void traces() {
        ShapeForms forms = new ShapeForms();
        int trace = Make.trace(forms, 2, 0, 0, 10, 0, 10, 10);
        apart("crossing traces", forms, trace, Make.trace(forms, 0, 5, -5, 5, 5), 0);
        apart("a trace is not closed", forms, trace, forms.circle(2, 8, 0), 7);
        apart("side by side", forms, trace, Make.trace(forms, 4, 0, -10, 30, -10), 7);
        apart("end to piece", forms, trace, Make.trace(forms, 0, 14, 5, 20, 9), 3);
        apart("piece to end", forms, trace, Make.trace(forms, 0, 0, 20, 20, 20), 9);
        apart("on one line", forms, Make.trace(forms, 0, 0, 40, 5, 40), Make.trace(forms, 0, 8, 40, 9, 40), 3);
        apart("one corner alone", forms, trace, Make.trace(forms, 2, 4, 7), 4);
        apart("the first corner is just as far as a whole number, the next one nearer", forms,
                Make.trace(forms, 0, 70, 70, 72, 70), forms.circle(74, 70, 0), 2);
        Check.due("10: the nearer corner counts, not the first that is just so far", 1,
                () -> forms.nearer(Make.trace(forms, 0, 70, 70, 72, 70), forms.circle(74, 70, 0), 4));
        Check.due("10: nor the first piece", 1,
                () -> forms.nearer(Make.trace(forms, 0, 70, 90, 80, 90, 78, 84), forms.circle(78, 80, 0), 10));
        apart("closed round a place, it holds it not", forms,
                Make.trace(forms, 0, 50, 50, 60, 50, 60, 60, 50, 60, 50, 50), forms.circle(55, 55, 1), 4);
    }

    /** "(0 when they have one in common)": one point in common, and none by 1. */
    private static void touchingByOne() {
        ShapeForms forms = new ShapeForms();
        int circle = forms.circle(0, 0, 5);
        apart("circle and circle, touching", forms, circle, forms.circle(10, 0, 5), 0);
        apart("circle and circle, by 1", forms, circle, forms.circle(11, 0, 5), 1);
        apart("circle and box, touching", forms, circle, forms.box(5, -3, 4, 6, 0), 0);
        apart("circle and box, by 1", forms, circle, forms.box(6, -3, 4, 6, 0), 1);
        apart("circle and box's corner, touching", forms, circle, forms.box(3, 4, 4, 6, 0), 0);
        apart("circle and trace, touching", forms, circle, Make.trace(forms, 4, 7, -9, 7, 9), 0);
        apart("circle and trace, by 1", forms, circle, Make.trace(forms, 4, 8, -9, 8, 9), 1);
        int frame = Make.frame(forms);
        apart("circle and polygon, touching", forms, frame, forms.circle(23, 4, 3), 0);
        apart("circle and polygon, by 1", forms, frame, forms.circle(24, 4, 3), 1);
        apart("circle in a hole, touching", forms, frame, forms.circle(10, 10, 5), 0);
        apart("circle in a hole, by 1", forms, frame, forms.circle(10, 10, 4), 1);
        apart("polygon and polygon, touching", forms, frame, Make.polygon(forms, 20, 9, 30, 0, 30, 20), 0);
        apart("polygon and polygon, by 1", forms, frame, Make.polygon(forms, 21, 9, 30, 0, 30, 20), 1);
        apart("polygon in a hole, touching", forms, frame, Make.polygon(forms, 5, 9, 12, 9, 12, 12), 0);
        apart("polygon in a hole, by 1", forms, frame, Make.polygon(forms, 6, 9, 12, 9, 12, 12), 1);
        int grown = forms.grow(frame, 2);
        apart("grown polygon and place, touching", forms, grown, forms.circle(22, 9, 0), 0);
        apart("grown polygon and place, by 1", forms, grown, forms.circle(23, 9, 0), 1);
        int trace = Make.trace(forms, 0, 40, 0, 50, 0, 50, 10);
        apart("trace and trace, end on piece", forms, trace, Make.trace(forms, 0, 45, 0, 45, -9), 0);
        apart("trace and trace, end by 1 from piece", forms, trace, Make.trace(forms, 0, 45, -1, 45, -9), 1);
        apart("trace and trace, end on end", forms, trace, Make.trace(forms, 0, 40, 0, 30, 9), 0);
        apart("trace and trace, end by 1 from end", forms, trace, Make.trace(forms, 0, 39, 0, 30, 0), 1);
    }

    /** Distances between 0 and 1, of pieces that nearly cross and of places just past a piece's end. */
    private static void byLessThanOne() {
        ShapeForms forms = new ShapeForms();
        int steep = Make.trace(forms, 0, 0, 0, 1, 2);
        between("a piece that ends left of another", forms, steep, Make.trace(forms, 0, -5, 1, 0, 1), 0, 1);
        between("a piece that begins left of another", forms, steep, Make.trace(forms, 0, 0, 1, -5, 1), 0, 1);
        between("a piece that ends right of another", forms, steep, Make.trace(forms, 0, 6, 1, 1, 1), 0, 1);
        between("a piece that begins right of another", forms, steep, Make.trace(forms, 0, 1, 1, 6, 1), 0, 1);
        apart("a piece across it", forms, steep, Make.trace(forms, 0, 0, 1, 1, 1), 0);
        int shortest = Make.trace(forms, 0, 10, 10, 11, 11);
        between("a place beside the shortest slant piece", forms, shortest, forms.circle(11, 10, 0), 0, 1);
        apart("a place behind its end", forms, shortest, forms.circle(12, 11, 0), 1);
        int level = Make.trace(forms, 0, -100, 50, 100, 50);
        int sinking = Make.trace(forms, 0, 0, 55, 10, 53);
        apart("the second corner is nearer", forms, level, sinking, 3);
        Check.due("10: the first is just that far", 1, () -> forms.nearer(level, sinking, 5));
        Check.due("10: turned round", 1, () -> forms.nearer(sinking, level, 5));
    }

    /** Slant pieces and places whose squares are beyond a long, by whole distances and between two. */
    private static void slantAndGreat() {
        long[][] rows = {
            // x, y of the piece's ends, x, y of the place, the distance without its fraction
            {-301722466, 363181386, 49657712, 10846881, 176331422, 159233275, 194475865},
            {-402643255, 78417751, 369349199, 456038768, 244573897, 181238488, 192024418},
            {467334542, -331582173, -378446019, -100789921, 3659048, 432486208, 615055368},
            {483918344, 431427111, 322191441, -81844868, -328626281, 318111197, 740929723},
            {-12017707, -37981796, -28327037, 29224660, -29138918, -28266581, 14347153},
            {17789655, -49026157, -26072133, -8069316, -14261483, 1279873, 14893922},
            {76956, 2691329, 1694480, -2508715, 104034, 1887664, 212850},
            {2408309, -2483458, -2735711, -501084, 2475494, -236912, 2120429},
            {1655256, 1795493, -1432639, 2031160, -1323318, 1526552, 494825},
            {-1225632, 134152, -1830528, -1741433, -2119067, -341418, 704334},
            {236686, -217168, 2181, 522653, -949193, 152767, 1018668},
            {429641, -91296, -740088, 655924, -925182, -816047, 1340118},
            {-464854, -168392, 386060, -72607, -83261, 231134, 354333},
            {963563, 626215, -522056, -267389, 436027, 886788, 495205},
            {200128, -154041, 151919, 77078, 41574, -163535, 157151},
            {191575, -271937, 92935, 231669, -259044, -114605, 411974},
            {-30122, 246946, -134858, -278097, 96870, -156693, 203500},
            {36622, -63321, -79124, -79172, -9530, 50598, 119127},
            {19012, 33567, 12008, -37789, 12514, -14915, 1730},
        };
        for (long[] row : rows) {
            ShapeForms forms = new ShapeForms();
            int piece = Make.trace(forms, 0, row[0], row[1], row[2], row[3]);
            between("a great slant " + row[6], forms, piece, forms.circle(row[4], row[5], 0), row[6], row[6] + 1);
        }
        exactSlant(3, 4, 5, 100_000_000L);
        exactSlant(5, 12, 13, 40_000_000L);
        exactSlant(20, 21, 29, 23_000_000L);
        exactSlant(3, 4, 5, 1);
    }

    /** A piece through 0, 0 along x, y, and a place square to it: the distance is whole, and next to it not. */
    private static void exactSlant(long x, long y, long length, long times) {
        ShapeForms forms = new ShapeForms();
        int piece = Make.trace(forms, 0, -x * times, -y * times, x * times, y * times);
        long distance = length * times;
        apart("a whole slant", forms, piece, forms.circle(-y * times, x * times, 0), distance);
        between("1 above it", forms, piece, forms.circle(-y * times, x * times + 1, 0), distance, distance + 1);
        between("1 to its right", forms, piece, forms.circle(1 - y * times, x * times, 0), distance - 1, distance);
        int wide = forms.grow(piece, times);
        int round = forms.circle(-y * times, x * times, times);
        apart("grown on both sides", forms, wide, round, distance - 2 * times);
        Check.due("10: the greatest reach across a slant", 1, () -> forms.nearer(forms.grow(piece, Make.BILLION),
                forms.circle(-y * times, x * times, Make.BILLION), Make.BILLION));
    }

    private static void great() {
        ShapeForms forms = new ShapeForms();
        int low = forms.circle(-Make.FAR, -Make.FAR, 0);
        int high = forms.circle(Make.FAR, Make.FAR, 0);
        Check.due("10: the farthest places", -1, () -> forms.nearer(low, high, Make.BILLION));
        between("10^9 * root 2", forms, forms.grow(low, Make.FAR), high, 914_213_562L, 914_213_563L);
        apart("the greatest radii", forms, forms.grow(low, Make.BILLION), forms.grow(high, Make.BILLION), 0);
        Check.due("10: the greatest reach", 1,
                () -> forms.nearer(forms.grow(low, Make.BILLION), forms.grow(low, Make.BILLION), Make.BILLION));
        int line = Make.trace(forms, 0, -Make.FAR, -Make.FAR, Make.FAR, Make.FAR - 1);
        int cross = Make.trace(forms, 0, -Make.FAR, Make.FAR, 0, 0);
        between("a hair's breadth", forms, line, forms.circle(0, 0, 0), 0, 1);
        between("short of crossing by a hair", forms, line, cross, 0, 1);
        int beyond = Make.trace(forms, 0, -Make.FAR, Make.FAR, 0, -1);
        apart("crossing by a hair", forms, line, beyond, 0);
        int wall = Make.trace(forms, 0, Make.FAR, -Make.FAR, Make.FAR, Make.FAR);
        Check.due("10: a thousand million", 0, () -> forms.nearer(wall, low, Make.BILLION));
        Check.due("10: and one less", -1, () -> forms.nearer(low, wall, Make.BILLION - 1));
    }

    private static void full() {
        ShapeForms forms = new ShapeForms();
        int polygon = Make.fullPolygon(forms);
        apart("by the last of 48 corners", forms, polygon, forms.circle(23, -110, 3), 7);
        between("by the closing side", forms, polygon, forms.circle(0, -100, 0), 22, 23);
        int trace = Make.fullTrace(forms);
        apart("by the last of a trace's 48", forms, trace, forms.circle(60, 1, 2), 10);
        apart("two full ones, side by side", forms, polygon, forms.turn(trace, 2, false), 0);
        Make.circles(forms, 33);
        apart("the first shape and the 40th", forms, 0, forms.circle(1, 200, 1), 198);
    }

    private static void wrongNumbers() {
        Edges.shapeNumbers("10: a", Sample.CIRCLE, (forms, shape) -> forms.nearer(shape, 0, 1));
        Edges.shapeNumbers("10: b", Sample.CIRCLE, (forms, shape) -> forms.nearer(0, shape, 1));
        Edges.shapeNumbers("10: a and b", Sample.CIRCLE, (forms, shape) -> forms.nearer(shape, shape, 1));
        Edges.needsWhole("10: a", (forms, shape) -> forms.nearer(shape, 0, 1));
        Edges.needsWhole("10: b", (forms, shape) -> forms.nearer(0, shape, 1));
        Edges.needsWhole("10: a and b", (forms, shape) -> forms.nearer(shape, shape, 1));
        Edges.numbers("10: distance", 0, Make.BILLION, forms -> forms.circle(0, 0, 1),
                (forms, distance) -> forms.nearer(0, 0, distance));
    }

    private static void wrongTwice() {
        Edges.Build circleAndTrace = forms -> {
            forms.circle(0, 0, 5);
            forms.trace(2);
        };
        Edges.leaves("10: no second, the first not whole", Edges.NO_SUCH, circleAndTrace,
                forms -> forms.nearer(1, 2, 0));
        Edges.leaves("10: no first, the second not whole", Edges.NO_SUCH, circleAndTrace,
                forms -> forms.nearer(-1, 1, 0));
        Edges.leaves("10: no first, and below 0", Edges.NO_SUCH, circleAndTrace, forms -> forms.nearer(2, 0, -1));
        Edges.leaves("10: not whole, and below 0", Edges.BAD_STATE, circleAndTrace, forms -> forms.nearer(0, 1, -1));
        Edges.leaves("10: asking changes nothing", 0, circleAndTrace, forms -> forms.nearer(0, 0, 0));
    }
}
