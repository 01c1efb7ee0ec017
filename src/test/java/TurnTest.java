/** Promise 12: turn. */
public final class TurnTest {
    public static void main(String[] args) {
        places();
        shapes();
        farthest();
        goingOn();
        Edges.shapeNumbers("12", Sample.CIRCLE, (forms, shape) -> forms.turn(shape, 1, false));
        Edges.needsWhole("12", (forms, shape) -> forms.turn(shape, 1, true));
        Edges.full("12", forms -> forms.turn(0, 1, false));
        Edges.leaves("12: full, by 0 quarters", ShapeForms.NONE, Make::fill, forms -> forms.turn(0, 0, false));
        Edges.leaves("12: full, and not whole", Edges.BAD_STATE, Make::emptyTraceAndFill,
                forms -> forms.turn(0, 1, false));
        Edges.leaves("12: full, and no such shape", Edges.NO_SUCH, Make::fill, forms -> forms.turn(40, 1, false));
        Check.end("TurnTest");
    }

    private static void place(int quarters, boolean mirrored, long x, long y) {
        ShapeForms forms = new ShapeForms();
        int place = forms.circle(2, 1, 3);
        int turned = forms.turn(place, quarters, mirrored);
        String what = "12: by " + quarters + (mirrored ? ", mirrored" : "");
        Check.due(what, 1, () -> turned);
        Check.due(what + ": where", true, () -> forms.same(turned, forms.circle(x, y, 3)));
        Check.due(what + ": kind", 0, () -> forms.kind(turned));
    }

    private static void places() {
        place(0, false, 2, 1);
        place(1, false, -1, 2);
        place(2, false, -2, -1);
        place(3, false, 1, -2);
        place(4, false, 2, 1);
        place(5, false, -1, 2);
        place(-1, false, 1, -2);
        place(-2, false, -2, -1);
        place(-3, false, -1, 2);
        place(-4, false, 2, 1);
        place(-5, false, 1, -2);
        place(0, true, -2, 1);
        place(1, true, -1, -2);
        place(2, true, 2, -1);
        place(3, true, 1, 2);
        place(4, true, -2, 1);
        place(-1, true, 1, 2);
        place(Integer.MAX_VALUE, false, 1, -2);
        place(Integer.MAX_VALUE - 1, false, -2, -1);
        place(Integer.MIN_VALUE, false, 2, 1);
        place(Integer.MIN_VALUE, true, -2, 1);
        place(Integer.MIN_VALUE + 1, true, -1, -2);
    }

    private static void shapes() {
        ShapeForms forms = new ShapeForms();
        int box = forms.box(1, 2, 10, 6, 2);
        Check.due("12: a box", true, () -> forms.same(forms.turn(box, 1, false), forms.box(-8, 1, 6, 10, 2)));
        Check.due("12: it stays one", 1, () -> forms.kind(forms.turn(box, 1, true)));
        int trace = Make.trace(forms, 4, 1, 0, 5, 0, 5, 7);
        Check.due("12: a trace", true,
                () -> forms.same(forms.turn(trace, -1, true), Make.trace(forms, 4, 0, 1, 0, 5, 7, 5)));
        int frame = Make.frame(forms);
        int turned = forms.turn(frame, 2, false);
        Check.due("12: a polygon's hole", false, () -> forms.inside(turned, -10, -10));
        Check.due("12: a polygon's flesh", true, () -> forms.inside(turned, -2, -10));
        int grown = forms.grow(frame, 3);
        int round = forms.turn(grown, 1, false);
        Check.due("12: a grown one stays so", 4, () -> forms.kind(round));
        Check.due("12: with its radius", -23L, () -> forms.boxOf(round, 0));
        Check.due("12: the first one stays", 0L, () -> forms.boxOf(frame, 0));
        Check.due("12: four single quarters", true, () -> forms.same(trace,
                forms.turn(forms.turn(forms.turn(forms.turn(trace, 1, false), 1, false), 1, false), 1, false)));
        Check.due("12: mirrored twice", true, () -> forms.same(frame, forms.turn(forms.turn(frame, 0, true), 0, true)));
    }

    /** "Cores lie among the places": the farthest ones stay so, however they are turned. */
    private static void farthest() {
        for (int quarters = -4; quarters <= 4; quarters++) {
            for (boolean mirrored : new boolean[] {false, true}) {
                ShapeForms forms = new ShapeForms();
                int all = forms.box(-Make.FAR, -Make.FAR, Make.BILLION, Make.BILLION, 0);
                int turned = forms.turn(all, quarters, mirrored);
                Check.due("12: all places, by " + quarters + ", " + mirrored, true, () -> forms.same(all, turned));
            }
        }
        ShapeForms forms = new ShapeForms();
        int place = forms.circle(-Make.FAR, Make.FAR, 0);
        Check.due("12: the farthest place, mirrored", true,
                () -> forms.inside(forms.turn(place, 0, true), Make.FAR, Make.FAR));
        Check.due("12: the farthest place, turned", true,
                () -> forms.inside(forms.turn(place, 1, false), -Make.FAR, -Make.FAR));
        Check.due("12: the middle stays", true,
                () -> forms.same(forms.circle(0, 0, 1), forms.turn(forms.circle(0, 0, 1), 3, true)));
        int full = Make.fullPolygon(forms);
        Check.due("12: all 48 corners", 100L, () -> forms.boxOf(forms.turn(full, 2, false), 3));
    }

    private static void goingOn() {
        ShapeForms forms = new ShapeForms();
        int turned = forms.turn(Make.frame(forms), 1, false);
        Check.due("12: a turned polygon knows its rings", false,
                () -> Make.ring(forms, turned, -10, 10, -30, 10, -10, 30));
        Check.due("12: and takes new ones", true, () -> Make.ring(forms, turned, -8, 8, -12, 8, -10, 12));
        Check.due("12: which count", true, () -> forms.inside(turned, -10, 9));
        int frame = Make.frame(forms);
        int copy = forms.turn(frame, 0, false);
        Make.ring(forms, frame, 30, 30, 40, 30, 30, 40);
        Check.due("12: what becomes of the first one is nothing to the new one", 20L, () -> forms.boxOf(copy, 2));
        forms.corner(copy, 8, 8);
        Check.due("12: nor the other way round", 40L, () -> forms.boxOf(frame, 2));
    }
}
