/** Promise 4: polygon. */
public final class PolygonTest {
    public static void main(String[] args) {
        withoutCorners();
        Edges.full("4", forms -> forms.polygon());
        Check.end("PolygonTest");
    }

    private static void withoutCorners() {
        ShapeForms forms = new ShapeForms();
        Check.due("4: its number", 0, forms::polygon);
        Check.due("4: the next number", 1, forms::polygon);
        Check.due("4: kind", 2, () -> forms.kind(0));
        Check.badState("4: it has no corners", () -> forms.ring(0));
        Check.badState("4: it is not whole", () -> forms.inside(0, 0, 0));
        Check.due("4: it takes all 48", 48, () -> Make.free(forms, 0));
        Make.ring(forms, 1, -2, -2, 4, -2, -2, 4);
        Check.due("4: its radius is 0", -2L, () -> forms.boxOf(1, 0));
        Check.due("4: so it can't be less", -1, () -> forms.grow(1, -1));
        Check.due("4: it is plain", 2, () -> forms.kind(1));
    }
}
