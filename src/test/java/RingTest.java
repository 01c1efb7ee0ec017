/** Promise 7: ring. */
public final class RingTest {
    public static void main(String[] args) {
        goodRings();
        emptyRings();
        selfCrossingRings();
        runningBack();
        crossingOtherRings();
        goneCorners();
        fullPolygons();
        Edges.shapeNumbers("7", Sample.POLYGON_NOT_CLOSED, (forms, shape) -> forms.ring(shape));
        wrongShapes();
        Check.end("RingTest");
    }

    /** Whether these corners become the first ring of a new polygon; if not, they are gone. */
    private static void first(String what, boolean want, long... places) {
        ShapeForms forms = new ShapeForms();
        int polygon = forms.polygon();
        Check.due("7: " + what, want, () -> Make.ring(forms, polygon, places));
        Check.badState("7: " + what + ": no corners are left open", () -> forms.ring(polygon));
        int left = want ? 48 - places.length / 2 : 48;
        Check.due("7: " + what + ": whole or not", want ? "whole" : Edges.BAD_STATE, () -> {
            forms.boxOf(polygon, 0);
            return "whole";
        });
        Check.due("7: " + what + ": corners left to take", left, () -> Make.free(forms, polygon));
    }

    /** Whether these corners become a ring beside the frame's, and whether the core changes by them. */
    private static void further(String what, boolean want, boolean changes, long... places) {
        ShapeForms forms = new ShapeForms();
        int frame = Make.frame(forms);
        int polygon = Make.frame(forms);
        Check.due("7: further, " + what, want, () -> Make.ring(forms, polygon, places));
        Check.badState("7: further, " + what + ": no corners are left open", () -> forms.ring(polygon));
        Check.due("7: further, " + what + ": the core", !changes, () -> forms.same(frame, polygon));
        int left = changes ? 40 - places.length / 2 : 40;
        Check.due("7: further, " + what + ": corners left to take", left, () -> Make.free(forms, polygon));
    }

    private static void goodRings() {
        first("a triangle", true, 0, 0, 5, 0, 0, 5);
        first("the other way round", true, 0, 0, 0, 5, 5, 0);
        first("the least triangle", true, 0, 0, 1, 0, 0, 1);
        first("straight corners", true, 0, 0, 5, 0, 10, 0, 10, 5, 0, 5);
        first("a corner straight at the end", true, 5, 0, 10, 0, 10, 5, 0, 5, 0, 0);
        first("a notch", true, 0, 0, 10, 0, 10, 10, 5, 1, 0, 10);
        first("as great as can be", true, -Make.FAR, -Make.FAR, Make.FAR, -Make.FAR, Make.FAR, Make.FAR,
                -Make.FAR, Make.FAR);
        first("as thin as can be", true, -Make.FAR, -Make.FAR, Make.FAR, Make.FAR, Make.FAR - 1, Make.FAR - 2);
        further("in the hole", true, true, 8, 8, 12, 8, 8, 12);
        further("beside", true, true, 30, 0, 40, 0, 30, 10);
        further("around", true, true, -5, -5, 25, -5, 25, 25, -5, 25);
        further("in the frame", true, true, 1, 1, 4, 1, 4, 4);
    }

    /** "It is EMPTY when all its corners lie on one line": false for a first one, true for a further one. */
    private static void emptyRings() {
        first("one corner", false, 3, 3);
        first("two corners", false, 3, 3, 5, 5);
        first("three on a line", false, 0, 0, 5, 5, 10, 10);
        first("three on a line, the last between", false, 0, 0, 10, 10, 5, 5);
        first("to and fro", false, 0, 0, 5, 0, 0, 0, 5, 0);
        first("upright", false, 0, 0, 0, 9, 0, 4, 0, 7);
        first("level", false, 0, 3, 9, 3, 4, 3, 7, 3);
        first("slant through all places", false, -Make.FAR, -Make.FAR, Make.FAR, Make.FAR, 0, 0);
        first("off that line by the least", true, -Make.FAR, -Make.FAR, Make.FAR, Make.FAR, 0, 1);
        first("nearly on a line", true, -Make.FAR, -Make.FAR, Make.FAR, Make.FAR - 1, 0, 0);
        first("the last corner alone off the line", true, 0, 0, 5, 0, 10, 0, 5, 1);
        first("the first corner alone off the line", true, 5, 1, 0, 0, 5, 0, 10, 0);
        first("the second corner alone off the line", true, 0, 0, 5, -1, 10, 0, 5, 0);
        further("one corner", true, false, 3, 3);
        further("two corners", true, false, 8, 8, 9, 9);
        further("three on a line", true, false, 8, 8, 10, 10, 12, 12);
        further("to and fro", true, false, 8, 8, 12, 8, 8, 8, 12, 8);
        further("on a line across all rings", true, false, -9, 10, 30, 10, 15, 10);
        further("one corner on a ring", true, false, 5, 5);
        further("along a side of a ring", true, false, 0, 0, 20, 0);
        further("off a line by the least", true, true, 8, 8, 12, 8, 10, 9);
    }

    /** "two of its sides have a point in common but for the corner between two that follow one another". */
    private static void selfCrossingRings() {
        first("a bow tie", false, 0, 0, 20, 20, 20, 0, 0, 20);
        first("the first corner again at the end", false, 0, 0, 5, 0, 0, 5, 0, 0);
        first("a corner on a side", false, 0, 0, 10, 0, 10, 5, 5, 0, 0, 5);
        first("a corner above the side by 1", true, 0, 0, 10, 0, 10, 5, 5, 1, 0, 5);
        first("a corner below the side by 1", false, 0, 0, 10, 0, 10, 5, 5, -1, 0, 5);
        first("the first corner on a later side", false, 5, 0, 0, 5, 0, 0, 10, 0, 10, 5);
        first("a corner on the closing side", false, 10, 0, 10, 5, 5, 0, 0, 5, 0, 0);
        first("a corner twice", false, 0, 0, 5, 5, 10, 0, 10, 10, 5, 5, 0, 10);
        first("two corners by 1 apart", true, 0, 0, 5, 4, 10, 0, 10, 10, 5, 5, 0, 10);
        first("a side along another", false, 0, 0, 10, 0, 10, 5, 8, 0, 2, 0, 0, 5);
        first("a side along another, by 1 off", true, 0, 0, 10, 0, 10, 5, 8, 1, 2, 1, 0, 5);
        first("the side before the last crosses", false, 0, 0, 10, 0, 10, 10, 2, -1, 0, 10);
        first("the closing side crosses", false, 0, 0, 10, 10, 10, 0, 20, 0, 5, 20, 5, 2, 0, 6);
        first("crossing by the least", false, -Make.FAR, 0, Make.FAR, 1, Make.FAR, 10, 0, 0, -Make.FAR, 10);
        first("beside by the least", true, -Make.FAR, 0, Make.FAR, 1, Make.FAR, 10, 0, 1, -Make.FAR, 10);
        first("crossing, as great as can be", false, -Make.FAR, -Make.FAR, Make.FAR, Make.FAR, Make.FAR, -Make.FAR,
                -Make.FAR, Make.FAR);
    }

    /** Two sides that follow one another may have their corner in common, and no other point. */
    private static void runningBack() {
        first("a side that runs back", false, 0, 0, 10, 0, 5, 0, 5, 5);
        first("a side that runs back beyond", false, 0, 0, 10, 0, -5, 0, -5, 5);
        first("back to the same place", false, 0, 0, 10, 0, 0, 0, 5, 5);
        first("the last side runs back", false, 0, 0, 10, 0, 10, 10, 5, 0);
        first("the last side runs back over all of the first", false, 0, 0, 10, 0, 10, 10, 20, 10, 20, 0);
        first("the last side goes straight on", true, 0, 0, 10, 0, 10, 10, -5, 0);
        first("the side before the last runs back", false, 0, 0, 10, 0, 10, 10, 0, 5, 0, 10);
        first("nearly back, by 1 above", true, 0, 0, 10, 0, 5, 1);
        first("a spike of no width", false, 0, 0, 10, 0, 10, 5, 20, 5, 10, 5, 10, 10);
        first("a spike of the least width", true, 0, 0, 10, 0, 10, 5, 20, 5, 10, 6, 10, 10);
    }

    /** "or one of them a point with a side of another ring". */
    private static void crossingOtherRings() {
        further("a corner on the outer ring", false, false, 20, 10, 30, 0, 30, 20);
        further("a corner by 1 beside the outer ring", true, true, 21, 10, 30, 0, 30, 20);
        further("a corner by 1 within the outer ring", false, false, 19, 10, 30, 0, 30, 20);
        further("a corner of both", false, false, 20, 20, 30, 20, 30, 30);
        further("a corner by 1 from a corner", true, true, 21, 20, 30, 20, 30, 30);
        further("across the outer ring", false, false, 18, 18, 30, 18, 18, 30);
        further("a corner of the outer ring on it", false, false, 10, 30, 30, 10, 30, 30);
        further("a corner of the outer ring by 1 beside it", true, true, 10, 31, 31, 10, 31, 31);
        further("the very same ring", false, false, 0, 0, 20, 0, 20, 20, 0, 20);
        further("the hole's very ring", false, false, 5, 5, 5, 15, 15, 15, 15, 5);
        further("by 1 around the outer ring", true, true, -1, -1, 21, -1, 21, 21, -1, 21);
        further("by 1 within the outer ring", true, true, 1, 1, 19, 1, 19, 19, 1, 19);
        further("by 1 within the hole", true, true, 6, 6, 14, 6, 14, 14, 6, 14);
        further("a side along the hole", false, false, 6, 5, 14, 5, 10, 8);
        further("a side along the hole, by 1 off", true, true, 7, 6, 13, 6, 10, 8);
        further("only the closing side touches", false, false, 8, 8, 12, 8, 12, 12, 5, 10);
        further("across both rings", false, false, -5, 9, 30, 9, 30, 11, -5, 11);
        further("a bow tie in the hole", false, false, 8, 8, 12, 12, 12, 8, 8, 12);
        further("a bow tie beside", false, false, 30, 0, 50, 20, 50, 0, 30, 20);
    }

    private static void goneCorners() {
        ShapeForms forms = new ShapeForms();
        int polygon = forms.polygon();
        Check.due("7: refused", false, () -> Make.ring(forms, polygon, 0, 0, 20, 20, 20, 0, 0, 20));
        Check.badState("7: its corners are gone", () -> forms.ring(polygon));
        Check.badState("7: still not whole", () -> forms.inside(polygon, 0, 0));
        Check.due("7: empty", false, () -> Make.ring(forms, polygon, 0, 0, 20, 20));
        Check.badState("7: its corners are gone, too", () -> forms.ring(polygon));
        Check.due("7: good", true, () -> Make.ring(forms, polygon, 0, 0, 20, 0, 0, 20));
        Check.badState("7: no corners behind it", () -> forms.ring(polygon));
        Check.due("7: whole", true, () -> forms.inside(polygon, 1, 1));
        Check.due("7: a refused further one", false, () -> Make.ring(forms, polygon, 5, 5, 30, 5, 5, 30));
        Check.due("7: leaves it whole", false, () -> forms.inside(polygon, 20, 20));
        Check.due("7: an empty further one", true, () -> Make.ring(forms, polygon, 5, 5, 30, 5));
        Check.badState("7: is gone", () -> forms.ring(polygon));
        Check.due("7: where a refused one was, a good one can be", true,
                () -> Make.ring(forms, polygon, 30, 5, 40, 5, 30, 15));
        Check.due("7: and where an empty one was", true, () -> Make.ring(forms, polygon, 5, 5, 6, 5, 5, 6));
        Edges.leaves("7: a refused further ring", false, Make::frame,
                more -> Make.ring(more, 0, -5, 9, 30, 9, 30, 11, -5, 11));
        Edges.leaves("7: an empty further ring", true, Make::frame, more -> Make.ring(more, 0, -90, 10, 90, 10));
        Edges.leaves("7: an empty first ring", false, ShapeForms::polygon, more -> Make.ring(more, 0, 1, 1));
        Edges.leaves("7: a refused first ring", false, ShapeForms::polygon,
                more -> Make.ring(more, 0, 0, 0, 9, 9, 9, 0, 0, 9));
    }

    private static void fullPolygons() {
        ShapeForms forms = new ShapeForms();
        int polygon = Make.openFullPolygon(forms);
        Check.due("7: 48 corners", true, () -> forms.ring(polygon));
        Check.badState("7: and no more behind them", () -> forms.ring(polygon));
        int crossing = forms.polygon();
        Make.teeth(forms, crossing, 48);
        Check.due("7: 48 corners, the closing side through them", false, () -> forms.ring(crossing));
        Check.due("7: all 48 are gone", 48, () -> Make.free(forms, crossing));
        int line = forms.polygon();
        for (int i = 0; i < 48; i++) {
            forms.corner(line, i, i);
        }
        Check.due("7: 48 corners on one line", false, () -> forms.ring(line));
        Check.due("7: they are gone, too", 48, () -> Make.free(forms, line));
        int rings = forms.polygon();
        for (int i = 0; i < 16; i++) {
            long x = 10 * i;
            Check.due("7: ring " + i + " of 16", true, () -> Make.ring(forms, rings, x, 0, x + 5, 0, x, 5));
        }
        Check.due("7: in the last one", true, () -> forms.inside(rings, 151, 1));
        Check.due("7: between two", false, () -> forms.inside(rings, 147, 1));
    }

    /** "IllegalStateException, when it is no polygon, or there are no such corners". */
    private static void wrongShapes() {
        refused("a circle", forms -> forms.circle(0, 0, 5));
        refused("a box", forms -> forms.box(0, 0, 4, 4, 0));
        refused("a trace without corners", forms -> forms.trace(2));
        refused("a trace", forms -> Make.trace(forms, 2, 0, 0, 5, 0, 5, 5));
        refused("a full trace", Make::fullTrace);
        refused("a polygon without corners", forms -> forms.polygon());
        refused("a polygon with a ring alone", forms -> Make.polygon(forms, 0, 0, 9, 0, 0, 9));
        refused("a polygon with two rings alone", Make::frame);
        refused("a full polygon", Make::fullPolygon);
        refused("a polygon behind a refused first ring", forms -> Make.polygon(forms, 0, 0, 9, 9, 9, 0, 0, 9));
        refused("a polygon behind an empty first ring", forms -> Make.polygon(forms, 0, 0, 9, 9));
        refused("a polygon behind a refused ring", Sample.POLYGON_BEHIND_A_REFUSED_RING::on);
        refused("a polygon behind an empty ring", Sample.POLYGON_BEHIND_AN_EMPTY_RING::on);
        Edges.leaves("7: a grown polygon", Edges.BAD_STATE, forms -> forms.grow(Make.frame(forms), 1),
                forms -> forms.ring(1));
    }

    private static void refused(String what, Edges.Build build) {
        Edges.leaves("7: " + what, Edges.BAD_STATE, build, forms -> forms.ring(0));
    }
}
