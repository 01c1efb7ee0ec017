/** Promise 6: corner. */
public final class CornerTest {
    public static void main(String[] args) {
        ofTraces();
        ofPolygons();
        samePlace();
        fullTrace();
        fullPolygon();
        fullInRings();
        fullCopies();
        goneCorners();
        Edges.shapeNumbers("6", Sample.TRACE_OF_ONE_CORNER, (forms, shape) -> forms.corner(shape, 3, 3));
        wrongShapes();
        wrongPlaces();
        Check.end("CornerTest");
    }

    private static void ofTraces() {
        ShapeForms forms = new ShapeForms();
        int trace = forms.trace(2);
        Check.due("6: the first", true, () -> forms.corner(trace, 1, 1));
        Check.due("6: same x alone", true, () -> forms.corner(trace, 1, 2));
        Check.due("6: same y alone", true, () -> forms.corner(trace, 5, 2));
        Check.due("6: back to an earlier one", true, () -> forms.corner(trace, 1, 2));
        Check.due("6: the farthest places", true, () -> forms.corner(trace, -Make.FAR, Make.FAR));
        int grown = forms.grow(trace, 4);
        Check.due("6: a grown trace takes corners", true, () -> forms.corner(grown, 0, -100));
        Check.due("6: the copy is not the first one", 0L, () -> forms.boxOf(trace, 1));
        Check.due("6: it has the corner", -105L, () -> forms.boxOf(grown, 1));
        int turned = forms.turn(trace, 0, false);
        Check.due("6: a turned trace knows its last corner", false, () -> forms.corner(turned, -Make.FAR, Make.FAR));
    }

    private static void ofPolygons() {
        ShapeForms forms = new ShapeForms();
        int polygon = forms.polygon();
        Check.due("6: the first", true, () -> forms.corner(polygon, 0, 0));
        Make.ring(forms, polygon, 20, 0, 20, 20, 0, 20);
        Check.due("6: behind the ring", true, () -> forms.corner(polygon, 3, 3));
        Check.badState("6: it is not whole now", () -> forms.boxOf(polygon, 0));
        Check.due("6: the one corner is no ring", true, () -> forms.ring(polygon));
        Check.due("6: whole again", 20L, () -> forms.boxOf(polygon, 3));
        int copy = forms.grow(polygon, 0);
        Check.due("6: a copy of radius 0 takes corners", true, () -> forms.corner(copy, 5, 5));
        int back = forms.grow(forms.grow(polygon, 7), -7);
        Check.due("6: also one grown and shrunk", true, () -> forms.corner(back, 5, 5));
        int turned = forms.turn(polygon, 1, true);
        Check.due("6: a turned one takes corners", true, () -> forms.corner(turned, 5, 5));
    }

    /** "or the corner behind which it would come (of the same ring) is the same place". */
    private static void samePlace() {
        Edges.leaves("6: a trace's first place again", false, forms -> Make.trace(forms, 2, 1, 1),
                forms -> forms.corner(0, 1, 1));
        Edges.leaves("6: a trace's last place again", false, forms -> Make.trace(forms, 2, 1, 1, 4, 4),
                forms -> forms.corner(0, 4, 4));
        Edges.leaves("6: the farthest place again", false, forms -> Make.trace(forms, 0, Make.FAR, -Make.FAR),
                forms -> forms.corner(0, Make.FAR, -Make.FAR));
        Edges.leaves("6: a polygon's first place again", false,
                forms -> Make.cornersOn(forms, forms.polygon(), 0, 0), forms -> forms.corner(0, 0, 0));
        Edges.leaves("6: a polygon's last place again", false,
                forms -> Make.cornersOn(forms, forms.polygon(), 0, 0, 9, 0, 0, 9), forms -> forms.corner(0, 0, 9));
        Edges.leaves("6: the last place of a further ring again", false,
                forms -> Make.cornersOn(forms, Make.frame(forms), 8, 8, 9, 8), forms -> forms.corner(0, 9, 8));

        ShapeForms forms = new ShapeForms();
        int trace = Make.trace(forms, 2, 1, 1, 4, 4);
        Check.due("6: a trace's place before the last", true, () -> forms.corner(trace, 1, 1));
        int polygon = forms.polygon();
        Make.corners(forms, polygon, 0, 0, 9, 0, 0, 9);
        Check.due("6: a polygon's first place at its end", true, () -> forms.corner(polygon, 0, 0));
        int frame = Make.frame(forms);
        Check.due("6: the last place of the ring before", true, () -> forms.corner(frame, 15, 5));
        Check.due("6: not twice", false, () -> forms.corner(frame, 15, 5));
        int places = forms.trace(0);
        for (int i = 0; i < 60; i++) {
            long x = i / 2;
            Check.due("6: each place twice, corner " + i, i % 2 == 0, () -> forms.corner(places, x, 0));
        }
        Check.due("6: the refused ones don't count", 18, () -> Make.free(forms, places));
    }

    private static void fullTrace() {
        ShapeForms forms = new ShapeForms();
        int trace = forms.trace(2);
        for (int i = 0; i < 48; i++) {
            long x = i;
            Check.due("6: trace's corner " + i, true, () -> forms.corner(trace, x, x % 2));
        }
        Check.due("6: all 48 belong to it", 48L, () -> forms.boxOf(trace, 2));
        Edges.leaves("6: a trace's 49th", false, Make::fullTrace, full -> full.corner(0, 100, 100));
        Edges.leaves("6: a trace's 49th, at the last place", false, Make::fullTrace, full -> full.corner(0, 47, 1));
        Edges.leaves("6: a trace's 49th, at the first place", false, Make::fullTrace, full -> full.corner(0, 0, 0));
        Edges.leaves("6: a full trace, and no place", Edges.BAD_ARGUMENT, Make::fullTrace,
                full -> full.corner(0, Make.FAR + 1, 0));
    }

    private static void fullPolygon() {
        ShapeForms forms = new ShapeForms();
        int polygon = forms.polygon();
        for (int i = 0; i < 47; i++) {
            long x = i;
            Check.due("6: polygon's corner " + i, true, () -> forms.corner(polygon, x, x % 2));
        }
        Check.due("6: polygon's 48th corner", true, () -> forms.corner(polygon, 23, -100));
        Check.due("6: no 49th", false, () -> forms.corner(polygon, -100, -100));
        Check.due("6: the 48 become a ring", true, () -> forms.ring(polygon));
        Check.due("6: the 48th belongs to it", -100L, () -> forms.boxOf(polygon, 1));
        Check.due("6: the 49th doesn't", 0L, () -> forms.boxOf(polygon, 0));
        Edges.leaves("6: a polygon's 49th", false, Make::openFullPolygon, full -> full.corner(0, -100, -100));
        Edges.leaves("6: a polygon's 49th, at the last place", false, Make::openFullPolygon,
                full -> full.corner(0, 23, -100));
        Edges.leaves("6: a full polygon, and no place", Edges.BAD_ARGUMENT, Make::openFullPolygon,
                full -> full.corner(0, 0, -Make.FAR - 1));
    }

    /** Where all 48 are in rings, a refused corner must not make the polygon less than whole. */
    private static void fullInRings() {
        Edges.leaves("6: 48 in a ring", false, Make::fullPolygon, full -> full.corner(0, 200, 200));
        Edges.Build manyRings = full -> {
            int polygon = full.polygon();
            for (int i = 0; i < 16; i++) {
                Make.ring(full, polygon, 10 * i, 0, 10 * i + 5, 0, 10 * i, 5);
            }
        };
        Edges.leaves("6: 48 in 16 rings", false, manyRings, full -> full.corner(0, 500, 500));
        ShapeForms forms = new ShapeForms();
        int frame = Make.frame(forms);
        Check.due("6: two rings of 8 corners leave 40", 40, () -> Make.free(forms, frame));
        int three = Make.polygon(forms, 0, 0, 9, 0, 0, 9);
        Check.due("6: a ring of 3 corners leaves 45", 45, () -> Make.free(forms, three));
        Check.due("6: a full polygon is whole", true, () -> {
            int full = Make.fullPolygon(forms);
            forms.corner(full, 200, 200);
            return forms.inside(full, 23, -50);
        });
    }

    private static void fullCopies() {
        ShapeForms forms = new ShapeForms();
        int trace = Make.fullTrace(forms);
        int polygon = Make.fullPolygon(forms);
        Check.due("6: a grown full trace is full", false, () -> forms.corner(forms.grow(trace, 1), 100, 100));
        Check.due("6: a turned full trace is full", false, () -> forms.corner(forms.turn(trace, 1, true), 100, 100));
        Check.due("6: a copied full polygon is full", false, () -> forms.corner(forms.grow(polygon, 0), 100, 100));
        Check.due("6: a turned full polygon is full", false,
                () -> forms.corner(forms.turn(polygon, 1, true), 100, 100));
        int short47 = forms.trace(2);
        Make.teeth(forms, short47, 47);
        int copy = forms.grow(short47, 1);
        Check.due("6: a copy of 47 takes one more", true, () -> forms.corner(copy, 100, 100));
        Check.due("6: and no other", false, () -> forms.corner(copy, 200, 100));
        Check.due("6: the first one has its own", true, () -> forms.corner(short47, 300, 100));
    }

    /** Corners that ring takes away leave room, and are no corner behind which another comes. */
    private static void goneCorners() {
        ShapeForms forms = new ShapeForms();
        int polygon = forms.polygon();
        Make.teeth(forms, polygon, 48);
        Check.due("6: teeth closed through themselves", false, () -> forms.ring(polygon));
        Check.due("6: the last place of a refused ring", true, () -> forms.corner(polygon, 47, 1));
        Check.due("6: refused corners don't count", 47, () -> Make.free(forms, polygon));
        int empty = forms.polygon();
        Check.due("6: an empty first ring", false, () -> Make.ring(forms, empty, 1, 1, 2, 2));
        Check.due("6: the last place of an empty ring", true, () -> forms.corner(empty, 2, 2));
        Check.due("6: an empty ring's corners don't count", 47, () -> Make.free(forms, empty));
        int further = Make.frame(forms);
        Check.due("6: an empty further ring", true, () -> Make.ring(forms, further, 8, 8, 9, 9));
        Check.due("6: its last place", true, () -> forms.corner(further, 9, 9));
        Check.due("6: its corners don't count", 39, () -> Make.free(forms, further));
    }

    /** "IllegalStateException, when it is neither, or a polygon with a radius above 0". */
    private static void wrongShapes() {
        Edges.leaves("6: a circle", Edges.BAD_STATE, forms -> forms.circle(0, 0, 5), forms -> forms.corner(0, 1, 1));
        Edges.leaves("6: a box", Edges.BAD_STATE, forms -> forms.box(0, 0, 4, 4, 1), forms -> forms.corner(0, 1, 1));
        Edges.leaves("6: a box of no height", Edges.BAD_STATE, forms -> forms.box(0, 0, 4, 0, 0),
                forms -> forms.corner(0, 9, 0));
        Edges.leaves("6: a polygon of radius 1", Edges.BAD_STATE, forms -> forms.grow(Make.frame(forms), 1),
                forms -> forms.corner(1, 50, 50));
        Edges.leaves("6: a turned polygon of radius 1", Edges.BAD_STATE,
                forms -> forms.turn(forms.grow(Make.frame(forms), 1), 1, false), forms -> forms.corner(2, 50, 50));
        Edges.leaves("6: a full polygon of radius 1", Edges.BAD_STATE, forms -> forms.grow(Make.fullPolygon(forms), 1),
                forms -> forms.corner(1, 50, 50));
        Edges.leaves("6: a circle, and no place", Edges.BAD_STATE, forms -> forms.circle(0, 0, 5),
                forms -> forms.corner(0, Make.FAR + 1, 0));
        Edges.leaves("6: no such shape, and no place", Edges.NO_SUCH, forms -> forms.circle(0, 0, 5),
                forms -> forms.corner(1, Make.FAR + 1, 0));
    }

    private static void wrongPlaces() {
        Edges.places("6: a trace", forms -> forms.trace(2), (forms, x, y) -> forms.corner(0, x, y));
        Edges.places("6: a trace with a corner", forms -> Make.trace(forms, 2, 1, 2),
                (forms, x, y) -> forms.corner(0, x, y));
        Edges.places("6: a polygon", forms -> forms.polygon(), (forms, x, y) -> forms.corner(0, x, y));
        Edges.places("6: a polygon with rings", Make::frame, (forms, x, y) -> forms.corner(0, x, y));
    }
}
