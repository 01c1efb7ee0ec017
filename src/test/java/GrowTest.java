/** Promise 8: grow. */
public final class GrowTest {
    public static void main(String[] args) {
        radii();
        cores();
        wrongCalls();
        Check.end("GrowTest");
    }

    private static void radii() {
        ShapeForms forms = new ShapeForms();
        int circle = forms.circle(1, 2, 5);
        Check.due("8: more", 1, () -> forms.grow(circle, 3));
        Check.due("8: the radius", -7L, () -> forms.boxOf(1, 0));
        Check.due("8: less", 2, () -> forms.grow(circle, -5));
        Check.due("8: down to 0", 1L, () -> forms.boxOf(2, 0));
        Check.due("8: by 0", 3, () -> forms.grow(circle, 0));
        Check.due("8: the same", true, () -> forms.same(circle, 3));
        Check.due("8: below 0", -1, () -> forms.grow(circle, -6));
        Check.due("8: the greatest", 4, () -> forms.grow(circle, Make.BILLION - 5));
        Check.due("8: too great", -1, () -> forms.grow(circle, Make.BILLION - 4));
        Check.due("8: by the most", -1, () -> forms.grow(circle, Make.BILLION));
        Check.due("8: by the least", -1, () -> forms.grow(circle, -Make.BILLION));
        Check.due("8: by the most from 0", 5, () -> forms.grow(2, Make.BILLION));
        Check.due("8: the first one stays", -4L, () -> forms.boxOf(circle, 0));
    }

    private static void cores() {
        ShapeForms forms = new ShapeForms();
        int frame = Make.frame(forms);
        int grown = forms.grow(frame, 3);
        Check.due("8: a grown polygon's kind", 4, () -> forms.kind(grown));
        Check.due("8: the hole shrinks", false, () -> forms.inside(grown, 9, 10));
        Check.due("8: to its edge", true, () -> forms.inside(grown, 8, 10));
        int back = forms.grow(grown, -3);
        Check.due("8: back, it is a plain polygon", 2, () -> forms.kind(back));
        Check.due("8: the same again", true, () -> forms.same(frame, back));
        int trace = Make.trace(forms, 2, 0, 0, 9, 0);
        int wide = forms.grow(trace, 4);
        Check.due("8: a trace stays one", 3, () -> forms.kind(wide));
        Check.due("8: its pieces are there", true, () -> forms.inside(wide, 4, 5));
        int box = forms.box(0, 0, 4, 4, 2);
        int more = forms.grow(box, 10);
        Check.due("8: a box stays one", 1, () -> forms.kind(more));
        Check.due("8: its radius may be over its half", -10L, () -> forms.boxOf(more, 0));
        Check.due("8: less than its rounding", -1, () -> forms.grow(box, -3));
    }

    private static void wrongCalls() {
        ShapeForms forms = new ShapeForms();
        int circle = forms.circle(0, 0, 1);
        int unfinished = Make.unfinished(forms);
        int polygon = forms.polygon();
        int trace = forms.trace(2);
        Check.noSuch("8: no such shape", () -> forms.grow(4, 1));
        Check.noSuch("8: below 0, and far too much", () -> forms.grow(-1, Long.MAX_VALUE));
        Check.badState("8: corners behind the last ring", () -> forms.grow(unfinished, 1));
        Check.badState("8: no ring", () -> forms.grow(polygon, 1));
        Check.badState("8: no corners", () -> forms.grow(trace, 1));
        Check.badState("8: not whole, and too much", () -> forms.grow(trace, Make.BILLION + 1));
        Check.badArgument("8: too much", () -> forms.grow(circle, Make.BILLION + 1));
        Check.badArgument("8: too little", () -> forms.grow(circle, -Make.BILLION - 1));
        Check.badArgument("8: the greatest long", () -> forms.grow(circle, Long.MAX_VALUE));
        Check.badArgument("8: the least long", () -> forms.grow(circle, Long.MIN_VALUE));
        Check.due("8: none of them took a number", 4, () -> forms.grow(circle, 1));
        Make.fill(forms);
        Check.due("8: full", -1, () -> forms.grow(circle, 1));
        Check.badArgument("8: full, and too much", () -> forms.grow(circle, Make.BILLION + 1));
        Check.badState("8: full, and not whole", () -> forms.grow(trace, 1));
    }
}
