/** Promise 3: box. */
public final class BoxTest {
    private static final Edges.Build ONE_SHAPE = forms -> forms.circle(7, 7, 7);

    public static void main(String[] args) {
        boxes();
        withoutArea();
        Edges.places("3", ONE_SHAPE, (forms, x, y) -> forms.box(x, y, 0, 0, 0));
        lengths();
        farCorners();
        roundings();
        Edges.full("3", forms -> forms.box(3, 4, 5, 6, 1));
        Edges.leaves("3: full, and no box", Edges.BAD_ARGUMENT, Make::fill, forms -> forms.box(0, 0, 4, 4, 3));
        Check.end("BoxTest");
    }

    private static void good(String what, long x, long y, long w, long h, long r) {
        ShapeForms forms = new ShapeForms();
        Check.due("3: " + what, 0, () -> forms.box(x, y, w, h, r));
        Check.due("3: " + what + ": kind", 1, () -> forms.kind(0));
        Check.due("3: " + what + ": least x", x, () -> forms.boxOf(0, 0));
        Check.due("3: " + what + ": least y", y, () -> forms.boxOf(0, 1));
        Check.due("3: " + what + ": greatest x", x + w, () -> forms.boxOf(0, 2));
        Check.due("3: " + what + ": greatest y", y + h, () -> forms.boxOf(0, 3));
        // "its core is r away from all four sides"
        Check.due("3: " + what + ": the radius", -1, () -> forms.grow(0, -r - 1));
        Check.due("3: " + what + ": the core", 1, () -> forms.grow(0, -r));
        Check.due("3: " + what + ": the core's least x", x + r, () -> forms.boxOf(1, 0));
        Check.due("3: " + what + ": the core's least y", y + r, () -> forms.boxOf(1, 1));
        Check.due("3: " + what + ": the core's greatest x", x + w - r, () -> forms.boxOf(1, 2));
        Check.due("3: " + what + ": the core's greatest y", y + h - r, () -> forms.boxOf(1, 3));
    }

    private static void bad(String what, long x, long y, long w, long h, long r) {
        Edges.leaves("3: " + what, Edges.BAD_ARGUMENT, ONE_SHAPE, forms -> forms.box(x, y, w, h, r));
    }

    private static void boxes() {
        good("a box", 0, 10, 6, 4, 1);
        good("not rounded", -3, -5, 6, 4, 0);
        ShapeForms forms = new ShapeForms();
        int box = forms.box(0, 10, 6, 4, 2);
        Check.due("3: the edge", true, () -> forms.inside(box, 0, 12));
        Check.due("3: the corner is round", false, () -> forms.inside(box, 0, 10));
        int square = forms.box(0, 0, 3, 3, 0);
        Check.due("3: a corner that is not rounded", true, () -> forms.inside(square, 3, 0));
        Check.due("3: beyond it", false, () -> forms.inside(square, 4, 0));
    }

    /** "a rectangle along the axes (also of no width or height)": of the box, and of the core alone. */
    private static void withoutArea() {
        good("of no width", 2, 3, 0, 5, 0);
        good("of no height", 2, 3, 5, 0, 0);
        good("one place", 2, 3, 0, 0, 0);
        good("the core has no width", 0, 0, 4, 10, 2);
        good("the core has no height", 0, 0, 10, 4, 2);
        good("the core is one place", 0, 0, 4, 4, 2);
        ShapeForms forms = new ShapeForms();
        int upright = forms.box(2, 3, 0, 5, 0);
        Check.due("3: no width, its end", true, () -> forms.inside(upright, 2, 8));
        Check.due("3: no width, behind its end", false, () -> forms.inside(upright, 2, 9));
        Check.due("3: no width, beside", false, () -> forms.inside(upright, 3, 5));
        int level = forms.box(2, 3, 5, 0, 0);
        Check.due("3: no height, its end", true, () -> forms.inside(level, 7, 3));
        Check.due("3: no height, behind its end", false, () -> forms.inside(level, 8, 3));
        Check.due("3: no height, above", false, () -> forms.inside(level, 5, 4));
        int place = forms.box(2, 3, 0, 0, 0);
        Check.due("3: one place", true, () -> forms.inside(place, 2, 3));
        Check.due("3: beside one place", false, () -> forms.inside(place, 2, 4));
        Check.due("3: a core of one place is a circle", true,
                () -> forms.same(forms.box(0, 0, 4, 4, 2), forms.circle(2, 2, 2)));
        Check.due("3: a core of no height is a piece", true,
                () -> forms.same(forms.box(0, 10, 6, 4, 2), Make.trace(forms, 4, 2, 12, 4, 12)));
    }

    /** "w wide, h high (0 .. 1,000,000,000)". */
    private static void lengths() {
        Edges.numbers("3: w", 0, Make.BILLION, ONE_SHAPE, (forms, w) -> forms.box(-Make.FAR, 0, w, 4, 0));
        Edges.numbers("3: h", 0, Make.BILLION, ONE_SHAPE, (forms, h) -> forms.box(0, -Make.FAR, 4, h, 0));
        good("as great as can be", -Make.FAR, -Make.FAR, Make.BILLION, Make.BILLION, 0);
        good("as round as can be", -Make.FAR, -Make.FAR, Make.BILLION, Make.BILLION, Make.FAR);
        bad("w so great that x + w wraps around", 1, 0, Long.MAX_VALUE, 4, 0);
        bad("h so great that y + h wraps around", 0, 1, 4, Long.MAX_VALUE, 0);
        bad("w below 0, though x + w is a place", 0, 0, -1, 4, 0);
        bad("h below 0, though y + h is a place", 0, 0, 4, -1, 0);
        bad("both below 0", 0, 0, -1, -1, 0);
    }

    /** "or x, y or x + w, y + h are no places". */
    private static void farCorners() {
        good("x + w is the last place", Make.FAR - 4, 0, 4, 2, 0);
        bad("x + w is beyond it", Make.FAR - 3, 0, 4, 2, 0);
        good("y + h is the last place", 0, Make.FAR - 4, 2, 4, 0);
        bad("y + h is beyond it", 0, Make.FAR - 3, 2, 4, 0);
        bad("the greatest width, one farther", 1 - Make.FAR, 0, Make.BILLION, 2, 0);
        bad("the greatest height, one farther", 0, 1 - Make.FAR, 2, Make.BILLION, 0);
        bad("x no place, though x + w is one", -Make.FAR - 1, 0, 4, 2, 0);
        bad("y no place, though y + h is one", 0, -Make.FAR - 1, 2, 4, 0);
        bad("x + w no place, the core among them", Make.FAR - 9, 0, 10, 10, 5);
    }

    /** "rounded by r (0 to the half of w, and of h)". */
    private static void roundings() {
        good("the half of w", 0, 0, 6, 20, 3);
        bad("over the half of w", 0, 0, 6, 20, 4);
        good("the half of h", 0, 0, 20, 6, 3);
        bad("over the half of h", 0, 0, 20, 6, 4);
        good("below the half of an odd w", 0, 0, 5, 20, 2);
        bad("over the half of an odd w", 0, 0, 5, 20, 3);
        good("below the half of an odd h", 0, 0, 20, 5, 2);
        bad("over the half of an odd h", 0, 0, 20, 5, 3);
        bad("no width, rounded", 0, 0, 0, 20, 1);
        bad("no height, rounded", 0, 0, 20, 0, 1);
        bad("one wide, rounded", 0, 0, 1, 1, 1);
        bad("below 0", 0, 0, 6, 6, -1);
        bad("below 0 by all", 0, 0, 6, 6, Long.MIN_VALUE);
        bad("over all", 0, 0, 6, 6, Long.MAX_VALUE);
        bad("so great that its double wraps around", 0, 0, 6, 6, 1L << 62);
        bad("so great that its double is the least long", 0, 0, 6, 6, (1L << 62) + 1);
        bad("over the half of the greatest", -Make.FAR, -Make.FAR, Make.BILLION, Make.BILLION, Make.FAR + 1);
    }
}
