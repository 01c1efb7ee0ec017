/** Promise 14: same. */
public final class SameTest {
    public static void main(String[] args) {
        places();
        pieces();
        crossingPieces();
        gaps();
        areas();
        rings();
        great();
        full();
        radii();
        for (Sample sample : Sample.values()) {
            if (sample.whole) {
                ShapeForms forms = new ShapeForms();
                int shape = sample.on(forms);
                same(sample + " and itself", forms, shape, shape);
                same(sample + " and its copy", forms, shape, forms.grow(shape, 0));
            }
        }
        wrongNumbers();
        Check.end("SameTest");
    }

    private static void same(String what, ShapeForms forms, int a, int b) {
        Check.due("14: " + what, true, () -> forms.same(a, b));
        Check.due("14: " + what + ", turned round", true, () -> forms.same(b, a));
    }

    private static void differ(String what, ShapeForms forms, int a, int b) {
        Check.due("14: " + what, false, () -> forms.same(a, b));
        Check.due("14: " + what + ", turned round", false, () -> forms.same(b, a));
    }

    private static void places() {
        ShapeForms forms = new ShapeForms();
        int circle = forms.circle(2, 2, 2);
        same("a circle and itself", forms, circle, circle);
        same("a circle and a round box", forms, circle, forms.box(0, 0, 4, 4, 2));
        same("a circle and a trace of one corner", forms, circle, Make.trace(forms, 4, 2, 2));
        differ("another radius", forms, circle, forms.circle(2, 2, 3));
        differ("another x", forms, circle, forms.circle(3, 2, 2));
        differ("another y", forms, circle, forms.circle(2, 1, 2));
        differ("a place and a piece from it", forms, circle, Make.trace(forms, 4, 2, 2, 3, 2));
        same("a place", forms, forms.circle(5, 5, 0), forms.box(5, 5, 0, 0, 0));
    }

    private static void pieces() {
        ShapeForms forms = new ShapeForms();
        int piece = Make.trace(forms, 2, 0, 0, 10, 0);
        same("to and fro", forms, piece, Make.trace(forms, 2, 10, 0, 0, 0));
        same("with a turn back", forms, piece, Make.trace(forms, 2, 0, 0, 10, 0, 4, 0));
        same("in parts", forms, piece, Make.trace(forms, 2, 0, 0, 3, 0, 7, 0, 10, 0));
        same("in overlapping parts", forms, piece, Make.trace(forms, 2, 4, 0, 10, 0, 0, 0, 6, 0));
        same("from the middle", forms, piece, Make.trace(forms, 2, 5, 0, 0, 0, 10, 0));
        same("a flat box", forms, piece, forms.box(-1, -1, 12, 2, 1));
        differ("a box with an area", forms, piece, forms.box(-1, -1, 12, 3, 1));
        differ("shorter", forms, piece, Make.trace(forms, 2, 0, 0, 9, 0));
        differ("longer on the left", forms, piece, Make.trace(forms, 2, -1, 0, 10, 0));
        differ("side by side", forms, piece, Make.trace(forms, 2, 0, 1, 10, 1));
        differ("slant", forms, piece, Make.trace(forms, 2, 0, 0, 10, 1));
        differ("both told backwards, one shorter", forms, Make.trace(forms, 2, 10, 0, 0, 0),
                Make.trace(forms, 2, 10, 0, 5, 0));
        differ("upright, both told backwards, one shorter", forms, Make.trace(forms, 2, 0, 10, 0, 0),
                Make.trace(forms, 2, 0, 10, 0, 5));
        int upright = Make.trace(forms, 0, 3, -5, 3, 5);
        same("an upright box", forms, upright, forms.box(3, -5, 0, 10, 0));
        same("upright in parts", forms, upright, Make.trace(forms, 0, 3, 0, 3, 5, 3, -5));
        differ("another x", forms, upright, Make.trace(forms, 0, 4, -5, 4, 5));
        same("slant in parts", forms, Make.trace(forms, 0, 0, 0, 9, 6), Make.trace(forms, 0, 6, 4, 9, 6, 0, 0));
    }

    private static void crossingPieces() {
        ShapeForms forms = new ShapeForms();
        int cross = Make.trace(forms, 0, 0, 0, 10, 0, 5, 0, 5, 5, 5, -5);
        same("a cross in another order", forms, cross, Make.trace(forms, 0, 5, -5, 5, 5, 5, 0, 0, 0, 10, 0));
        differ("an arm is missing", forms, cross, Make.trace(forms, 0, 5, 0, 5, 5, 5, 0, 0, 0, 10, 0));
        int gap = Make.trace(forms, 0, 0, 0, 4, 0, 4, 2, 5, 2, 5, 0, 9, 0);
        int bridge = Make.trace(forms, 0, 0, 0, 9, 0, 5, 0, 5, 2, 4, 2, 4, 0);
        differ("a gap of 1", forms, gap, bridge);
        differ("a gap of 1, upright", forms, forms.turn(gap, 1, false), forms.turn(bridge, 1, false));
        differ("a slant gap", forms, Make.trace(forms, 0, 0, 0, 3, 6, 9, 6, 4, 8, 6, 12),
                Make.trace(forms, 0, 0, 0, 6, 12, 4, 8, 9, 6, 3, 6));
        int square = Make.trace(forms, 0, 0, 0, 9, 0, 9, 9, 0, 9, 0, 0);
        same("a closed trace from elsewhere", forms, square, Make.trace(forms, 0, 9, 9, 9, 0, 0, 0, 0, 9, 9, 9));
        differ("a closed trace is not filled", forms, square, forms.box(0, 0, 9, 9, 0));
        differ("nor a polygon", forms, square, Make.polygon(forms, 0, 0, 9, 0, 9, 9, 0, 9));
    }

    /** Shapes that differ only between two corners, told in either direction. */
    private static void gaps() {
        ShapeForms forms = new ShapeForms();
        int gap = Make.trace(forms, 0, 0, 0, 4, 0, 4, 2, 5, 2, 5, 0, 9, 0);
        int bridge = Make.trace(forms, 0, 4, 0, 4, 2, 5, 2, 5, 0, 9, 0, 0, 0);
        for (int quarters = 0; quarters < 4; quarters++) {
            differ("a gap, turned by " + quarters, forms, forms.turn(gap, quarters, false),
                    forms.turn(bridge, quarters, false));
        }
        for (long side : new long[] {-5, 5}) {
            int[] closed = {Make.trace(forms, 0, 0, 0, 10, 0, 0, side, 0, 0),
                Make.trace(forms, 0, 0, 0, 0, side, 10, 0, 0, 0)};
            int[] half = {Make.trace(forms, 0, 5, 0, 10, 0, 0, side, 0, 0),
                Make.trace(forms, 0, 0, 0, 0, side, 10, 0, 5, 0)};
            for (int i = 0; i < 4; i++) {
                differ("a slant piece covers no level one, " + i, forms, closed[i / 2], half[i % 2]);
            }
            same("a triangle told in both directions", forms, closed[0], closed[1]);
        }
    }

    private static void areas() {
        ShapeForms forms = new ShapeForms();
        int box = forms.box(0, 0, 20, 20, 0);
        same("a box and a polygon", forms, box, Make.polygon(forms, 0, 0, 20, 0, 20, 20, 0, 20));
        same("from elsewhere, the other way round", forms, box, Make.polygon(forms, 20, 20, 20, 0, 0, 0, 0, 20));
        same("with straight corners", forms, box,
                Make.polygon(forms, 7, 0, 20, 0, 20, 3, 20, 20, 0, 20, 0, 9, 0, 0, 4, 0));
        differ("a frame", forms, box, Make.frame(forms));
        differ("a triangle", forms, box, Make.polygon(forms, 0, 0, 20, 0, 20, 20));
        differ("a notch", forms, box, Make.polygon(forms, 0, 0, 20, 0, 20, 20, 10, 19, 0, 20));
        int round = forms.box(-3, -3, 26, 26, 3);
        same("a round box and a grown polygon", forms, round,
                forms.grow(Make.polygon(forms, 0, 0, 20, 0, 20, 20, 0, 20), 3));
        differ("round and not", forms, round, box);
    }

    private static void rings() {
        ShapeForms forms = new ShapeForms();
        int frame = Make.frame(forms);
        int inOut = Make.polygon(forms, 5, 5, 15, 5, 15, 15, 10, 15, 5, 15);
        Make.ring(forms, inOut, 20, 0, 0, 0, 0, 20, 20, 20);
        same("the hole told first", forms, frame, inOut);
        int three = Make.frame(forms);
        Make.ring(forms, three, 8, 8, 12, 8, 8, 12);
        differ("one ring more", forms, frame, three);
        int smaller = Make.polygon(forms, 0, 0, 20, 0, 20, 20, 0, 20);
        Make.ring(forms, smaller, 5, 5, 15, 5, 15, 14, 5, 14);
        differ("a smaller hole", forms, frame, smaller);
        int emptied = Make.frame(forms);
        Make.ring(forms, emptied, 8, 8, 9, 9);
        same("an empty ring is none", forms, frame, emptied);
    }

    private static void great() {
        ShapeForms forms = new ShapeForms();
        int line = Make.trace(forms, 0, -Make.FAR, -Make.FAR, Make.FAR, Make.FAR);
        same("a long line in parts", forms, line, Make.trace(forms, 0, 0, 0, -Make.FAR, -Make.FAR, Make.FAR, Make.FAR));
        differ("by a hair", forms, line, Make.trace(forms, 0, -Make.FAR, -Make.FAR, Make.FAR, Make.FAR - 1));
        differ("by a hair in the middle", forms, line,
                Make.trace(forms, 0, -Make.FAR, -Make.FAR, 0, 1, Make.FAR, Make.FAR));
        int many = forms.trace(0);
        for (int i = 24; i < 48; i++) {
            Make.corners(forms, many, i - 24, 0, i, 0);
        }
        same("many overlapping parts", forms, many, Make.trace(forms, 0, 47, 0, 0, 0));
        int steps = forms.trace(0);
        for (int i = 47; i >= 0; i--) {
            Make.corners(forms, steps, i, 0);
        }
        same("many parts end to end, told backwards", forms, steps, many);
    }

    private static void full() {
        ShapeForms forms = new ShapeForms();
        int polygon = Make.fullPolygon(forms);
        same("a full polygon, turned all round", forms, polygon, forms.turn(polygon, 4, false));
        int missing = forms.polygon();
        Make.teeth(forms, missing, 47);
        Make.ring(forms, missing, 23, -101);
        differ("but for the last corner by 1", forms, polygon, missing);
        int trace = Make.fullTrace(forms);
        same("a full trace, mirrored twice", forms, trace, forms.turn(forms.turn(trace, 0, true), 0, true));
        int shorter = forms.trace(2);
        Make.teeth(forms, shorter, 47);
        differ("but for the last piece", forms, trace, shorter);
        Make.circles(forms, 32);
        int last = forms.circle(0, 0, 1);
        Check.due("14: that is the 40th shape", 39, () -> last);
        same("the 40th shape and an earlier one", forms, last, 7);
    }

    private static void radii() {
        ShapeForms forms = new ShapeForms();
        int circle = forms.circle(2, 2, 0);
        differ("0 and 1", forms, circle, forms.circle(2, 2, 1));
        differ("the greatest and one less", forms, forms.circle(2, 2, Make.BILLION),
                forms.circle(2, 2, Make.BILLION - 1));
        same("the greatest twice", forms, forms.circle(2, 2, Make.BILLION), forms.grow(circle, Make.BILLION));
        int frame = Make.frame(forms);
        differ("a frame and a grown one", forms, frame, forms.grow(frame, 1));
        differ("whose hole is grown over", forms, forms.grow(frame, 9),
                forms.grow(forms.box(0, 0, 20, 20, 0), 9));
    }

    private static void wrongNumbers() {
        Edges.shapeNumbers("14: a", Sample.CIRCLE, (forms, shape) -> forms.same(shape, 0));
        Edges.shapeNumbers("14: b", Sample.CIRCLE, (forms, shape) -> forms.same(0, shape));
        Edges.shapeNumbers("14: a and b", Sample.CIRCLE, (forms, shape) -> forms.same(shape, shape));
        Edges.needsWhole("14: a", (forms, shape) -> forms.same(shape, 0));
        Edges.needsWhole("14: b", (forms, shape) -> forms.same(0, shape));
        Edges.needsWhole("14: a and b", (forms, shape) -> forms.same(shape, shape));
        Edges.Build circleAndTrace = forms -> {
            forms.circle(0, 0, 5);
            forms.trace(10);
        };
        Edges.leaves("14: no second, the first not whole", Edges.NO_SUCH, circleAndTrace, forms -> forms.same(1, 2));
        Edges.leaves("14: no first, the second not whole", Edges.NO_SUCH, circleAndTrace, forms -> forms.same(-1, 1));
        Edges.leaves("14: radii that differ, and not whole", Edges.BAD_STATE, forms -> {
            forms.circle(0, 0, 5);
            forms.trace(2);
        }, forms -> forms.same(0, 1));
        Edges.leaves("14: asking changes nothing", true, circleAndTrace, forms -> forms.same(0, 0));
    }
}
