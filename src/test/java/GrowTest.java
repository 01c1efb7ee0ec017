/** Promise 8: grow. */
public final class GrowTest {
    public static void main(String[] args) {
        radii();
        cores();
        copies();
        Edges.shapeNumbers("8", Sample.CIRCLE, (forms, shape) -> forms.grow(shape, 1));
        Edges.needsWhole("8", (forms, shape) -> forms.grow(shape, 0));
        Edges.numbers("8: by", -Make.BILLION, Make.BILLION, forms -> forms.circle(1, 2, 5),
                (forms, by) -> forms.grow(0, by));
        Edges.full("8", forms -> forms.grow(0, 1));
        wrongTwice();
        Check.end("GrowTest");
    }

    /** "NONE when ... it would be no radius" (0 .. 1,000,000,000). */
    private static void radii() {
        grows("to 0", 5, -5);
        grows("by 0", 5, 0);
        grows("by 1", 5, 1);
        grows("to the greatest", 5, Make.BILLION - 5);
        grows("by the most, from 0", 0, Make.BILLION);
        grows("by the least, from the greatest", Make.BILLION, -Make.BILLION);
        grows("the greatest, by 0", Make.BILLION, 0);
        none("below 0", 5, -6);
        none("0, one less", 0, -1);
        none("over the greatest", 5, Make.BILLION - 4);
        none("the greatest, one more", Make.BILLION, 1);
        none("by the most, from 1", 1, Make.BILLION);
        none("by the least, from one below the greatest", Make.BILLION - 1, -Make.BILLION);
        none("by the least, from 0", 0, -Make.BILLION);
        none("by the most, from the greatest", Make.BILLION, Make.BILLION);
        ShapeForms forms = new ShapeForms();
        forms.box(0, 0, 8, 8, 3);
        Check.due("8: a box by its rounding", 1, () -> forms.grow(0, -3));
        Check.due("8: and one more", -1, () -> forms.grow(0, -4));
        Check.due("8: a polygon has no radius to lose", -1, () -> forms.grow(Make.frame(forms), -1));
    }

    private static void grows(String what, long radius, long by) {
        ShapeForms forms = new ShapeForms();
        int circle = forms.circle(1, 2, radius);
        Check.due("8: " + what, 1, () -> forms.grow(circle, by));
        Check.due("8: " + what + ": the radius", 1 - radius - by, () -> forms.boxOf(1, 0));
        Check.due("8: " + what + ": the first one stays", 1 - radius, () -> forms.boxOf(0, 0));
    }

    private static void none(String what, long radius, long by) {
        Edges.leaves("8: " + what, ShapeForms.NONE, forms -> forms.circle(1, 2, radius),
                forms -> forms.grow(0, by));
        Edges.leaves("8: " + what + ", a trace", ShapeForms.NONE, forms -> Make.trace(forms, 2 * radius, 1, 2, 3, 4),
                forms -> forms.grow(0, by));
    }

    private static void cores() {
        ShapeForms forms = new ShapeForms();
        int frame = Make.frame(forms);
        int grown = forms.grow(frame, 3);
        Check.due("8: a grown polygon's kind", 4, () -> forms.kind(grown));
        Check.due("8: the hole shrinks", false, () -> forms.inside(grown, 9, 10));
        Check.due("8: to its edge", true, () -> forms.inside(grown, 8, 10));
        int back = forms.grow(grown, -3);
        Check.due("8: back, it is a plain polygon", 2, () -> forms.kind(back));
        Check.due("8: the same again", true, () -> forms.same(frame, back));
        int least = forms.grow(frame, 1);
        Check.due("8: a radius of 1 is above 0", 4, () -> forms.kind(least));
        int trace = Make.trace(forms, 2, 0, 0, 9, 0);
        int wide = forms.grow(trace, 4);
        Check.due("8: a trace stays one", 3, () -> forms.kind(wide));
        Check.due("8: its pieces are there", true, () -> forms.inside(wide, 4, 5));
        int box = forms.box(0, 0, 4, 4, 2);
        int more = forms.grow(box, 10);
        Check.due("8: a box stays one", 1, () -> forms.kind(more));
        Check.due("8: its radius may be over its half", -10L, () -> forms.boxOf(more, 0));
        int full = forms.grow(Make.fullPolygon(forms), 1);
        Check.due("8: all 48 corners", -101L, () -> forms.boxOf(full, 1));
    }

    /** "A new shape": what becomes of the one is nothing to the other. */
    private static void copies() {
        ShapeForms forms = new ShapeForms();
        int frame = Make.frame(forms);
        int copy = forms.grow(frame, 0);
        Make.ring(forms, frame, 8, 8, 12, 8, 8, 12);
        Check.due("8: a ring of the first one is not the copy's", false, () -> forms.inside(copy, 9, 9));
        Make.ring(forms, copy, 30, 30, 40, 30, 30, 40);
        Check.due("8: nor the other way round", 20L, () -> forms.boxOf(frame, 2));
        forms.corner(frame, 50, 50);
        Check.due("8: the copy stays whole", 40L, () -> forms.boxOf(copy, 2));
        int trace = Make.trace(forms, 2, 0, 0);
        int wide = forms.grow(trace, 1);
        forms.corner(trace, 100, 0);
        Check.due("8: a corner of the first one is not the copy's", 2L, () -> forms.boxOf(wide, 2));
    }

    private static void wrongTwice() {
        Edges.leaves("8: no such shape, and too much", Edges.NO_SUCH, forms -> forms.circle(0, 0, 1),
                forms -> forms.grow(1, Make.BILLION + 1));
        Edges.leaves("8: not whole, and too much", Edges.BAD_STATE, forms -> forms.trace(2),
                forms -> forms.grow(0, Make.BILLION + 1));
        Edges.leaves("8: not whole, and no radius", Edges.BAD_STATE, forms -> forms.trace(2),
                forms -> forms.grow(0, -2));
        Edges.leaves("8: full, and too much", Edges.BAD_ARGUMENT, Make::fill,
                forms -> forms.grow(0, Make.BILLION + 1));
        Edges.leaves("8: full, and no radius", ShapeForms.NONE, Make::fill, forms -> forms.grow(0, -2));
        Edges.leaves("8: full, and not whole", Edges.BAD_STATE, Make::emptyTraceAndFill, forms -> forms.grow(0, 1));
    }
}
