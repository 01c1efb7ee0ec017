/** Promise 5: trace. */
public final class TraceTest {
    private static final Edges.Build ONE_SHAPE = forms -> forms.circle(7, 7, 7);

    public static void main(String[] args) {
        withoutCorners();
        radii();
        Edges.numbers("5: width", 0, 2 * Make.BILLION, ONE_SHAPE, (forms, width) -> forms.trace(width));
        oddWidths();
        Edges.full("5", forms -> forms.trace(2));
        Edges.leaves("5: full, and odd", Edges.BAD_ARGUMENT, Make::fill, forms -> forms.trace(3));
        Check.end("TraceTest");
    }

    private static void withoutCorners() {
        ShapeForms forms = new ShapeForms();
        Check.due("5: its number", 0, () -> forms.trace(6));
        Check.due("5: the next number", 1, () -> forms.trace(0));
        Check.due("5: kind", 3, () -> forms.kind(0));
        Check.due("5: kind of one without width", 3, () -> forms.kind(1));
        Check.badState("5: without corners it is not whole", () -> forms.boxOf(0, 0));
        Check.due("5: it takes all 48", 48, () -> Make.free(forms, 0));
    }

    /** "its radius is half its width". */
    private static void radii() {
        for (long radius : new long[] {0, 1, 3, Make.BILLION - 1, Make.BILLION}) {
            ShapeForms forms = new ShapeForms();
            int trace = Make.trace(forms, 2 * radius, 10, 20);
            String what = "5: the radius " + radius;
            Check.due(what + ", least x", 10 - radius, () -> forms.boxOf(trace, 0));
            Check.due(what + ", greatest y", 20 + radius, () -> forms.boxOf(trace, 3));
        }
    }

    private static void oddWidths() {
        for (long width : new long[] {1, 3, -1, -3, Make.BILLION + 1, 2 * Make.BILLION - 1, 2 * Make.BILLION + 1}) {
            Edges.leaves("5: odd width " + width, Edges.BAD_ARGUMENT, ONE_SHAPE, forms -> forms.trace(width));
        }
        for (long width : new long[] {-2, 2 * Make.BILLION + 2, Long.MAX_VALUE - 1}) {
            Edges.leaves("5: even width " + width, Edges.BAD_ARGUMENT, ONE_SHAPE, forms -> forms.trace(width));
        }
    }
}
