/** Promise 7: ring. */
public final class RingTest {
    public static void main(String[] args) {
        goodRings();
        emptyRings();
        selfCrossingRings();
        crossingOtherRings();
        goneCorners();
        wrongCalls();
        Check.end("RingTest");
    }

    /** Whether these corners become the first ring of a new polygon. */
    private static void first(String what, boolean want, long... places) {
        ShapeForms forms = new ShapeForms();
        int polygon = forms.polygon();
        Check.due("7: " + what, want, () -> Make.ring(forms, polygon, places));
    }

    /** Whether these corners become a ring beside the frame's, and whether the core changes by them. */
    private static void further(String what, boolean want, boolean changes, long... places) {
        ShapeForms forms = new ShapeForms();
        int frame = Make.frame(forms);
        int polygon = Make.frame(forms);
        Check.due("7: " + what, want, () -> Make.ring(forms, polygon, places));
        Check.due("7: " + what + ": the core", !changes, () -> forms.same(frame, polygon));
    }

    private static void goodRings() {
        first("a triangle", true, 0, 0, 5, 0, 0, 5);
        first("the other way round", true, 0, 0, 0, 5, 5, 0);
        first("straight corners", true, 0, 0, 5, 0, 10, 0, 10, 5, 0, 5);
        first("a corner straight at the end", true, 5, 0, 10, 0, 10, 5, 0, 5, 0, 0);
        first("a notch", true, 0, 0, 10, 0, 10, 10, 5, 1, 0, 10);
        first("as great as can be", true, -Make.FAR, -Make.FAR, Make.FAR, -Make.FAR, Make.FAR, Make.FAR,
                -Make.FAR, Make.FAR);
        first("as thin as can be", true, -Make.FAR, -Make.FAR, Make.FAR, Make.FAR, Make.FAR - 1, Make.FAR - 2);
        further("in the hole", true, true, 8, 8, 12, 8, 8, 12);
        further("beside", true, true, 30, 0, 40, 0, 30, 10);
        further("around", true, true, -5, -5, 25, -5, 25, 25, -5, 25);
        further("in the frame", true, true, 1, 1, 4, 1, 4, 4);
        further("by one from the hole", true, true, 6, 6, 14, 6, 14, 14, 6, 14);
    }

    private static void emptyRings() {
        first("one corner", false, 3, 3);
        first("two corners", false, 3, 3, 5, 5);
        first("three on a line", false, 0, 0, 10, 10, 5, 5);
        first("to and fro", false, 0, 0, 5, 0, 0, 0, 5, 0);
        first("upright", false, 0, 0, 0, 9, 0, 4, 0, 7);
        first("nearly on a line", true, -Make.FAR, -Make.FAR, Make.FAR, Make.FAR - 1, 0, 0);
        further("one corner", true, false, 3, 3);
        further("two corners", true, false, 8, 8, 9, 9);
        further("on a line across all rings", true, false, -9, 10, 30, 10, 15, 10);
        further("one corner on a ring", true, false, 5, 5);
    }

    private static void selfCrossingRings() {
        first("a bow tie", false, 0, 0, 20, 20, 20, 0, 0, 20);
        first("the first corner again at the end", false, 0, 0, 5, 0, 0, 5, 0, 0);
        first("a corner on a side", false, 0, 0, 10, 0, 10, 5, 5, 0, 0, 5);
        first("a corner twice", false, 0, 0, 5, 5, 10, 0, 10, 10, 5, 5, 0, 10);
        first("a side that runs back", false, 0, 0, 10, 0, 5, 0, 5, 5);
        first("the last side runs back", false, 0, 0, 10, 0, 10, 10, 5, 0);
        first("the last side runs back over all of the first", false, 0, 0, 10, 0, 10, 10, 20, 10, 20, 0);
        first("the last side goes straight on", true, 0, 0, 10, 0, 10, 10, -5, 0);
        first("back to the same place", false, 0, 0, 10, 0, 0, 0, 5, 5);
        first("a side along another", false, 0, 0, 10, 0, 10, 5, 8, 0, 2, 0, 0, 5);
        first("the side before the last crosses", false, 0, 0, 10, 0, 10, 10, 2, -1, 0, 10);
        first("crossing by the least", false, -Make.FAR, 0, Make.FAR, 1, Make.FAR, 10, 0, 0, -Make.FAR, 10);
        first("beside by the least", true, -Make.FAR, 0, Make.FAR, 1, Make.FAR, 10, 0, 1, -Make.FAR, 10);
    }

    private static void crossingOtherRings() {
        further("a corner on the outer ring", false, false, 20, 10, 30, 0, 30, 20);
        further("a corner of both", false, false, 20, 20, 30, 20, 30, 30);
        further("across the outer ring", false, false, 18, 18, 30, 18, 18, 30);
        further("a corner of the outer ring on it", false, false, 10, 30, 30, 10, 30, 30);
        further("the very same ring", false, false, 0, 0, 20, 0, 20, 20, 0, 20);
        further("a side along the hole", false, false, 6, 5, 14, 5, 10, 8);
        further("across both rings", false, false, -5, 9, 30, 9, 30, 11, -5, 11);
        further("a bow tie in the hole", false, false, 8, 8, 12, 12, 12, 8, 8, 12);
    }

    private static void goneCorners() {
        ShapeForms forms = new ShapeForms();
        int polygon = forms.polygon();
        Check.due("7: refused", false, () -> Make.ring(forms, polygon, 0, 0, 20, 20, 20, 0, 0, 20));
        Check.badState("7: its corners are gone", () -> forms.ring(polygon));
        Check.badState("7: still not whole", () -> forms.inside(polygon, 0, 0));
        Check.due("7: empty", false, () -> Make.ring(forms, polygon, 0, 0, 20, 20));
        Check.badState("7: its corners are gone, too", () -> forms.ring(polygon));
        Check.due("7: good", true, () -> Make.ring(forms, polygon, 0, 0, 20, 0, 0, 20));
        Check.badState("7: no corners behind it", () -> forms.ring(polygon));
        Check.due("7: whole", true, () -> forms.inside(polygon, 1, 1));
        Check.due("7: a refused further one", false, () -> Make.ring(forms, polygon, 5, 5, 30, 5, 5, 30));
        Check.due("7: leaves it whole", false, () -> forms.inside(polygon, 20, 20));
        Check.due("7: an empty further one", true, () -> Make.ring(forms, polygon, 5, 5, 30, 5));
        Check.badState("7: is gone", () -> forms.ring(polygon));
    }

    private static void wrongCalls() {
        ShapeForms forms = new ShapeForms();
        int circle = forms.circle(0, 0, 1);
        int box = forms.box(0, 0, 4, 4, 0);
        int trace = Make.trace(forms, 2, 0, 0, 5, 0, 5, 5);
        int polygon = forms.polygon();
        int grown = forms.grow(Make.frame(forms), 1);
        Check.noSuch("7: no such shape", () -> forms.ring(99));
        Check.noSuch("7: below 0", () -> forms.ring(-1));
        Check.badState("7: a circle", () -> forms.ring(circle));
        Check.badState("7: a box", () -> forms.ring(box));
        Check.badState("7: a trace", () -> forms.ring(trace));
        Check.badState("7: no corners", () -> forms.ring(polygon));
        Check.badState("7: a grown polygon", () -> forms.ring(grown));
    }
}
