/** Promise 9: inside. */
public final class InsideTest {
    public static void main(String[] args) {
        circles();
        boxes();
        polygons();
        nested();
        concave();
        traces();
        edgesByOne();
        great();
        Edges.shapeNumbers("9", Sample.CIRCLE, (forms, shape) -> forms.inside(shape, 0, 0));
        Edges.needsWhole("9", (forms, shape) -> forms.inside(shape, 0, 0));
        Edges.places("9", forms -> forms.circle(0, 0, 5), (forms, x, y) -> forms.inside(0, x, y));
        wrongTwice();
        Check.end("InsideTest");
    }

    private static void circles() {
        ShapeForms forms = new ShapeForms();
        int circle = forms.circle(0, 0, 5);
        int point = forms.circle(3, 4, 0);
        Check.due("9: on the edge", true, () -> forms.inside(circle, 3, 4));
        Check.due("9: just out", false, () -> forms.inside(circle, 4, 4));
        Check.due("9: the middle", true, () -> forms.inside(circle, 0, 0));
        Check.due("9: a circle of one place", true, () -> forms.inside(point, 3, 4));
        Check.due("9: beside it", false, () -> forms.inside(point, 3, 5));
    }

    private static void boxes() {
        ShapeForms forms = new ShapeForms();
        int box = forms.box(0, 0, 20, 30, 5);
        Check.due("9: the middle", true, () -> forms.inside(box, 10, 15));
        Check.due("9: a side", true, () -> forms.inside(box, 0, 15));
        Check.due("9: on the round corner", true, () -> forms.inside(box, 2, 1));
        Check.due("9: out of the round corner", false, () -> forms.inside(box, 1, 1));
        Check.due("9: beside", false, () -> forms.inside(box, 21, 15));
        Check.due("9: above", false, () -> forms.inside(box, 10, 31));
    }

    private static void polygons() {
        ShapeForms forms = new ShapeForms();
        int frame = Make.frame(forms);
        Make.ring(forms, frame, 8, 8, 12, 8, 12, 12, 8, 12);
        Make.ring(forms, frame, 30, 0, 40, 0, 40, 10);
        Check.due("9: the outer ring", true, () -> forms.inside(frame, 20, 10));
        Check.due("9: a corner", true, () -> forms.inside(frame, 0, 0));
        Check.due("9: in the frame", true, () -> forms.inside(frame, 2, 10));
        Check.due("9: the hole's edge", true, () -> forms.inside(frame, 5, 10));
        Check.due("9: the hole", false, () -> forms.inside(frame, 6, 10));
        Check.due("9: the hole, level with corners", false, () -> forms.inside(frame, 6, 8));
        Check.due("9: the isle in the hole", true, () -> forms.inside(frame, 10, 10));
        Check.due("9: the piece beside", true, () -> forms.inside(frame, 38, 4));
        Check.due("9: its slant side", true, () -> forms.inside(frame, 35, 5));
        Check.due("9: out of its slant side", false, () -> forms.inside(frame, 35, 6));
        Check.due("9: between the pieces", false, () -> forms.inside(frame, 25, 5));
        int grown = forms.grow(frame, 1);
        Check.due("9: grown, in the hole's edge", true, () -> forms.inside(grown, 6, 10));
        Check.due("9: grown, the hole's corner", true, () -> forms.inside(grown, 6, 6));
        Check.due("9: grown, the hole's edge is filled up by the isle's", true, () -> forms.inside(grown, 7, 10));
        Check.due("9: grown, the outer corner is round", false, () -> forms.inside(grown, -1, -1));
        Check.due("9: grown, deep within", true, () -> forms.inside(grown, 10, 10));
    }

    /** "the points within an odd number of its RINGS, and those on them": twelve, one in another, have 48 corners. */
    private static void nested() {
        ShapeForms forms = new ShapeForms();
        int nest = forms.polygon();
        for (int i = 1; i <= 12; i++) {
            long half = 10 * i;
            Check.due("9: ring " + i + " of 12", true,
                    () -> Make.ring(forms, nest, -half, -half, half, -half, half, half, -half, half));
        }
        for (int i = 1; i <= 12; i++) {
            long half = 10 * i;
            int around = 13 - i;
            Check.due("9: within " + around + " rings", around % 2 == 1, () -> forms.inside(nest, half - 5, 0));
            Check.due("9: on the inmost of " + around + " rings", true, () -> forms.inside(nest, 0, half));
        }
        Check.due("9: the middle of 12 rings", false, () -> forms.inside(nest, 0, 0));
        Check.due("9: out of all 12 rings", false, () -> forms.inside(nest, 121, 0));
    }

    private static void concave() {
        ShapeForms forms = new ShapeForms();
        int star = Make.polygon(forms, 0, 0, 10, 5, 20, 0, 15, 10, 20, 20, 10, 15, 0, 20, 5, 10);
        Check.due("9: level with a corner, left of it", false, () -> forms.inside(star, 4, 10));
        Check.due("9: level with a corner, on it", true, () -> forms.inside(star, 5, 10));
        Check.due("9: level with a corner, right of it", true, () -> forms.inside(star, 6, 10));
        Check.due("9: level with the lowest corners", false, () -> forms.inside(star, 10, 0));
        Check.due("9: level with the upper corners", false, () -> forms.inside(star, 10, 20));
        Check.due("9: left of the lowest corners", false, () -> forms.inside(star, -5, 0));
        int slope = Make.polygon(forms, 30, 0, 31, 2, 39, 0);
        Check.due("9: left of a steep side by less than 1", false, () -> forms.inside(slope, 30, 1));
        Check.due("9: right of it by less than 1", true, () -> forms.inside(slope, 31, 1));
        int back = forms.turn(slope, 0, true);
        Check.due("9: right of a steep side by less than 1", false, () -> forms.inside(back, -30, 1));
        Check.due("9: left of it by less than 1", true, () -> forms.inside(back, -31, 1));
        int step = Make.polygon(forms, 0, 0, 10, 0, 10, 5, 20, 5, 20, 10, 0, 10);
        Check.due("9: level with a side, within", true, () -> forms.inside(step, 4, 5));
        Check.due("9: level with a side, left", false, () -> forms.inside(step, -4, 5));
        Check.due("9: level with a side, right", false, () -> forms.inside(step, 24, 5));
        Check.due("9: under the step", false, () -> forms.inside(step, 14, 4));
    }

    private static void traces() {
        ShapeForms forms = new ShapeForms();
        int trace = Make.trace(forms, 10, 0, 0, 30, 40, 30, 0);
        Check.due("9: beside a slant piece, just that far", true, () -> forms.inside(trace, 11, 23));
        Check.due("9: a little farther", false, () -> forms.inside(trace, 10, 23));
        Check.due("9: behind its end", true, () -> forms.inside(trace, -3, -4));
        Check.due("9: farther behind its end", false, () -> forms.inside(trace, -4, -4));
        Check.due("9: it is not closed", false, () -> forms.inside(trace, 15, 0));
        Check.due("9: it is not filled", false, () -> forms.inside(trace, 20, 12));
        int thin = Make.trace(forms, 0, 0, 0, 9, 6);
        Check.due("9: on a piece of no width", true, () -> forms.inside(thin, 6, 4));
        Check.due("9: beside it", false, () -> forms.inside(thin, 6, 5));
        Check.due("9: on its line, behind it", false, () -> forms.inside(thin, 12, 8));
        int dot = Make.trace(forms, 4, 7, 7);
        Check.due("9: one corner alone", true, () -> forms.inside(dot, 9, 7));
        Check.due("9: round about it", false, () -> forms.inside(dot, 9, 9));
    }

    /** "all points that are not farther than that from the core": the last place to each side, and the next. */
    private static void edgesByOne() {
        ShapeForms forms = new ShapeForms();
        reaches("a circle", forms, forms.circle(10, 20, 5), 5, 15, 15, 25);
        reaches("a circle of one place", forms, forms.circle(10, 20, 0), 10, 20, 10, 20);
        reaches("a box", forms, forms.box(0, 10, 20, 20, 0), 0, 10, 20, 30);
        reaches("a round box", forms, forms.box(0, 10, 20, 20, 4), 0, 10, 20, 30);
        reaches("a grown box", forms, forms.grow(forms.box(0, 10, 20, 20, 4), 7), -7, 3, 27, 37);
        reaches("a box of one place", forms, forms.box(10, 20, 0, 0, 0), 10, 20, 10, 20);
        int diamond = Make.polygon(forms, 10, 10, 20, 20, 10, 30, 0, 20);
        reaches("a polygon", forms, diamond, 0, 10, 20, 30);
        reaches("a grown polygon", forms, forms.grow(diamond, 1), -1, 9, 21, 31);
        reaches("a trace of one corner", forms, Make.trace(forms, 6, 10, 20), 7, 17, 13, 23);
        int cross = Make.trace(forms, 2, 0, 20, 20, 20, 10, 20, 10, 30, 10, 10);
        reaches("a trace", forms, cross, -1, 9, 21, 31);
        int frame = forms.grow(Make.frame(forms), 2);
        Check.due("9: a grown frame, the last place in its hole's edge", true, () -> forms.inside(frame, 7, 10));
        Check.due("9: a grown frame, the next one", false, () -> forms.inside(frame, 8, 10));
        int plain = Make.frame(forms);
        Check.due("9: a frame, on its hole's edge", true, () -> forms.inside(plain, 15, 10));
        Check.due("9: a frame, before it", false, () -> forms.inside(plain, 14, 10));
        Check.due("9: a frame, on its hole's corner", true, () -> forms.inside(plain, 15, 15));
        Check.due("9: a frame, before that corner", false, () -> forms.inside(plain, 14, 14));
    }

    /** Along the lines x = 10 and y = 20, the shape goes from left to right and from low to high. */
    private static void reaches(String what, ShapeForms forms, int shape, long left, long low, long right, long high) {
        Check.due("9: " + what + ", left", true, () -> forms.inside(shape, left, 20));
        Check.due("9: " + what + ", left of it", false, () -> forms.inside(shape, left - 1, 20));
        Check.due("9: " + what + ", right", true, () -> forms.inside(shape, right, 20));
        Check.due("9: " + what + ", right of it", false, () -> forms.inside(shape, right + 1, 20));
        Check.due("9: " + what + ", low", true, () -> forms.inside(shape, 10, low));
        Check.due("9: " + what + ", below", false, () -> forms.inside(shape, 10, low - 1));
        Check.due("9: " + what + ", high", true, () -> forms.inside(shape, 10, high));
        Check.due("9: " + what + ", above", false, () -> forms.inside(shape, 10, high + 1));
    }

    private static void great() {
        ShapeForms forms = new ShapeForms();
        int line = Make.trace(forms, 0, -Make.FAR, -Make.FAR, Make.FAR, Make.FAR - 1);
        Check.due("9: past a long line by the least", false, () -> forms.inside(line, 0, 0));
        Check.due("9: its end", true, () -> forms.inside(line, Make.FAR, Make.FAR - 1));
        int wide = forms.grow(line, 1);
        Check.due("9: a radius of 1 gets there", true, () -> forms.inside(wide, 0, 0));
        int half = Make.trace(forms, 2 * 707_106_781L, -Make.FAR, Make.FAR, Make.FAR, -Make.FAR);
        Check.due("9: 500,000,000 * root 2 is above 707,106,781", false, () -> forms.inside(half, Make.FAR, Make.FAR));
        Check.due("9: and below that and 1", true, () -> forms.inside(forms.grow(half, 1), Make.FAR, Make.FAR));
        int all = forms.circle(-Make.FAR, -Make.FAR, Make.BILLION);
        Check.due("9: the greatest radius", true, () -> forms.inside(all, Make.FAR, -Make.FAR));
        Check.due("9: over it", false, () -> forms.inside(all, Make.FAR, 1 - Make.FAR));
        int square = Make.polygon(forms, -Make.FAR, -Make.FAR, Make.FAR, -Make.FAR, Make.FAR, Make.FAR,
                -Make.FAR, Make.FAR);
        Make.ring(forms, square, 1 - Make.FAR, 1 - Make.FAR, Make.FAR - 1, 1 - Make.FAR, Make.FAR - 1, Make.FAR - 1,
                1 - Make.FAR, Make.FAR - 1);
        Check.due("9: the farthest corner", true, () -> forms.inside(square, Make.FAR, Make.FAR));
        Check.due("9: the corner of the greatest hole", true, () -> forms.inside(square, Make.FAR - 1, 1 - Make.FAR));
        Check.due("9: in the greatest hole", false, () -> forms.inside(square, Make.FAR - 2, 2 - Make.FAR));
        int full = Make.fullPolygon(forms);
        Check.due("9: a polygon of 48 corners, its last one", true, () -> forms.inside(full, 23, -100));
        Check.due("9: below its last one", false, () -> forms.inside(full, 23, -101));
        Check.due("9: a polygon of 48 corners, a tooth", true, () -> forms.inside(full, 45, 1));
        Check.due("9: between two teeth", false, () -> forms.inside(full, 44, 1));
        int trace = Make.fullTrace(forms);
        Check.due("9: a trace of 48 corners, behind its last one", true, () -> forms.inside(trace, 48, 1));
        Check.due("9: farther behind", false, () -> forms.inside(trace, 49, 1));
    }

    private static void wrongTwice() {
        Edges.leaves("9: no such shape, and no place", Edges.NO_SUCH, forms -> forms.circle(0, 0, 5),
                forms -> forms.inside(1, Make.FAR + 1, 0));
        Edges.leaves("9: not whole, and no place", Edges.BAD_STATE, forms -> forms.trace(2),
                forms -> forms.inside(0, Make.FAR + 1, 0));
        Edges.leaves("9: asking changes nothing", true, Make::frame, forms -> forms.inside(0, 1, 1));
    }
}
