/** Promise 11: boxOf. */
public final class BoxOfTest {
    public static void main(String[] args) {
        boxes();
        farthest();
        Edges.shapeNumbers("11", Sample.CIRCLE, (forms, shape) -> forms.boxOf(shape, 0));
        for (int side = 0; side < 4; side++) {
            int asked = side;
            Edges.needsWhole("11, side " + side, (forms, shape) -> forms.boxOf(shape, asked));
        }
        wrongSides();
        Check.end("BoxOfTest");
    }

    private static void box(String what, ShapeForms forms, int shape, long... want) {
        for (int side = 0; side < 4; side++) {
            int asked = side;
            Check.due("11: " + what + ", side " + side, want[side], () -> forms.boxOf(shape, asked));
        }
    }

    private static void boxes() {
        ShapeForms forms = new ShapeForms();
        box("a circle", forms, forms.circle(1, 2, 5), -4, -3, 6, 7);
        box("a circle of one place", forms, forms.circle(1, 2, 0), 1, 2, 1, 2);
        box("a round box", forms, forms.box(-3, 10, 6, 4, 2), -3, 10, 3, 14);
        box("a grown box", forms, forms.grow(forms.box(-3, 10, 6, 4, 2), 3), -6, 7, 6, 17);
        box("a box of no width", forms, forms.box(-3, 10, 0, 4, 0), -3, 10, -3, 14);
        box("a box of no height", forms, forms.box(-3, 10, 6, 0, 0), -3, 10, 3, 10);
        box("a trace", forms, Make.trace(forms, 4, 3, 9, -7, 1, 5, 20), -9, -1, 7, 22);
        box("a trace of one corner", forms, Make.trace(forms, 4, 3, 9), 1, 7, 5, 11);
        box("a full trace", forms, Make.fullTrace(forms), -1, -1, 48, 2);
        box("a full polygon", forms, Make.fullPolygon(forms), 0, -100, 46, 1);
        int polygon = Make.polygon(forms, 0, 0, 9, -2, 4, 8);
        box("a polygon", forms, polygon, 0, -2, 9, 8);
        Make.ring(forms, polygon, -30, 1, -20, 1, -20, 50);
        box("with a second ring", forms, polygon, -30, -2, 9, 50);
        box("grown", forms, forms.grow(polygon, 7), -37, -9, 16, 57);
        Make.ring(forms, polygon, 900, 900, 999, 999);
        box("after an empty ring", forms, polygon, -30, -2, 9, 50);
        Make.ring(forms, polygon, 900, 900, 999, 999, 999, 900, 900, 999);
        box("after a refused ring", forms, polygon, -30, -2, 9, 50);
    }

    /** A shape's points may lie beyond the places, and none of its corners need to be at 0. */
    private static void farthest() {
        ShapeForms forms = new ShapeForms();
        box("beyond the places, left and above", forms, forms.circle(-Make.FAR, Make.FAR, Make.BILLION),
                -1_500_000_000L, -Make.FAR, Make.FAR, 1_500_000_000L);
        box("beyond the places, right and below", forms,
                Make.trace(forms, 2 * Make.BILLION, Make.FAR, -Make.FAR),
                -Make.FAR, -1_500_000_000L, 1_500_000_000L, Make.FAR);
        box("all places", forms, forms.box(-Make.FAR, -Make.FAR, Make.BILLION, Make.BILLION, 0),
                -Make.FAR, -Make.FAR, Make.FAR, Make.FAR);
        box("all places, grown by the most", forms,
                forms.grow(forms.box(-Make.FAR, -Make.FAR, Make.BILLION, Make.BILLION, 0), Make.BILLION),
                -1_500_000_000L, -1_500_000_000L, 1_500_000_000L, 1_500_000_000L);
        box("left of 0 and below", forms, Make.trace(forms, 0, -30, -40, -20, -10), -30, -40, -20, -10);
        box("right of 0 and above", forms, Make.trace(forms, 0, 30, 40, 20, 10), 20, 10, 30, 40);
    }

    /** "IndexOutOfBoundsException, also for another side". */
    private static void wrongSides() {
        for (int side : new int[] {-1, 4, 5, Integer.MIN_VALUE, Integer.MAX_VALUE}) {
            Edges.leaves("11: side " + side, Edges.NO_SUCH, forms -> forms.circle(0, 0, 5),
                    forms -> forms.boxOf(0, side));
            Edges.leaves("11: not whole, and side " + side, Edges.NO_SUCH, forms -> forms.trace(2),
                    forms -> forms.boxOf(0, side));
            Edges.leaves("11: no such shape, and side " + side, Edges.NO_SUCH, forms -> forms.trace(2),
                    forms -> forms.boxOf(1, side));
        }
        Edges.leaves("11: asking changes nothing", 5L, forms -> forms.circle(0, 0, 5), forms -> forms.boxOf(0, 3));
    }
}
