/** Promise 6: corner. */
public final class CornerTest {
    public static void main(String[] args) {
        ofTraces();
        ofPolygons();
        mostCorners();
        wrongCalls();
        Check.end("CornerTest");
    }

    private static void ofTraces() {
        ShapeForms forms = new ShapeForms();
        int trace = forms.trace(2);
        Check.due("6: the first", true, () -> forms.corner(trace, 1, 1));
        Check.due("6: the same place again", false, () -> forms.corner(trace, 1, 1));
        Check.due("6: same x alone", true, () -> forms.corner(trace, 1, 2));
        Check.due("6: same y alone", true, () -> forms.corner(trace, 5, 2));
        Check.due("6: back to an earlier one", true, () -> forms.corner(trace, 1, 2));
        Check.due("6: the farthest places", true, () -> forms.corner(trace, -Make.FAR, Make.FAR));
        int grown = forms.grow(trace, 4);
        Check.due("6: a grown trace takes corners", true, () -> forms.corner(grown, 0, -100));
        Check.due("6: the copy is not the first one", 0L, () -> forms.boxOf(trace, 1));
        Check.due("6: it has the corner", -105L, () -> forms.boxOf(grown, 1));
        int turned = forms.turn(trace, 0, false);
        Check.due("6: a turned trace knows its last corner", false, () -> forms.corner(turned, -Make.FAR, Make.FAR));
    }

    private static void ofPolygons() {
        ShapeForms forms = new ShapeForms();
        int polygon = forms.polygon();
        Check.due("6: the first", true, () -> forms.corner(polygon, 0, 0));
        Check.due("6: the same place", false, () -> forms.corner(polygon, 0, 0));
        Make.ring(forms, polygon, 20, 0, 20, 20, 0, 20);
        Check.due("6: a new ring may begin where the last one ended", true, () -> forms.corner(polygon, 0, 20));
        Check.due("6: not twice", false, () -> forms.corner(polygon, 0, 20));
        Check.badState("6: it is not whole now", () -> forms.boxOf(polygon, 0));
        Check.due("6: the one corner is no ring", true, () -> forms.ring(polygon));
        Check.due("6: whole again", 20L, () -> forms.boxOf(polygon, 3));
        int copy = forms.grow(polygon, 0);
        Check.due("6: a copy of radius 0 takes corners", true, () -> forms.corner(copy, 5, 5));
        int back = forms.grow(forms.grow(polygon, 7), -7);
        Check.due("6: also one grown and shrunk", true, () -> forms.corner(back, 5, 5));
    }

    private static void mostCorners() {
        ShapeForms forms = new ShapeForms();
        int trace = forms.trace(2);
        int polygon = Make.frame(forms);
        for (int i = 0; i < 48; i++) {
            long x = i;
            Check.due("6: trace's corner " + i, true, () -> forms.corner(trace, x, x % 2));
        }
        Check.due("6: no 49th", false, () -> forms.corner(trace, 100, 100));
        Check.due("6: nothing changed", 48L, () -> forms.boxOf(trace, 2));
        Check.badArgument("6: full, and no place", () -> forms.corner(trace, Make.FAR + 1, 0));
        for (int i = 8; i < 48; i++) {
            long x = i;
            Check.due("6: polygon's corner " + i, true, () -> forms.corner(polygon, x, x % 2));
        }
        Check.due("6: corners in rings count, too", false, () -> forms.corner(polygon, 100, 100));
        Check.due("6: a crossing ring", false, () -> forms.ring(polygon));
        Check.due("6: corners that are gone don't count", true, () -> forms.corner(polygon, 100, 100));
    }

    private static void wrongCalls() {
        ShapeForms forms = new ShapeForms();
        int circle = forms.circle(0, 0, 1);
        int box = forms.box(0, 0, 4, 4, 0);
        int grown = forms.grow(Make.frame(forms), 1);
        int trace = forms.trace(2);
        int polygon = forms.polygon();
        Check.noSuch("6: no such shape", () -> forms.corner(99, 0, 0));
        Check.noSuch("6: the next number", () -> forms.corner(polygon + 1, 0, 0));
        Check.noSuch("6: below 0, and no place", () -> forms.corner(-1, Make.FAR + 1, 0));
        Check.badState("6: a circle", () -> forms.corner(circle, 1, 1));
        Check.badState("6: a box", () -> forms.corner(box, 1, 1));
        Check.badState("6: a grown polygon", () -> forms.corner(grown, 1, 1));
        Check.badState("6: a circle, and no place", () -> forms.corner(circle, Make.FAR + 1, 0));
        Check.badArgument("6: x no place", () -> forms.corner(trace, Make.FAR + 1, 0));
        Check.badArgument("6: y no place", () -> forms.corner(polygon, 0, -Make.FAR - 1));
        Check.badState("6: nothing was added", () -> forms.boxOf(trace, 0));
    }
}
