/** Promise 11: boxOf. */
public final class BoxOfTest {
    public static void main(String[] args) {
        boxes();
        wrongCalls();
        Check.end("BoxOfTest");
    }

    private static void box(String what, ShapeForms forms, int shape, long... want) {
        for (int side = 0; side < 4; side++) {
            int asked = side;
            Check.due("11: " + what + ", side " + side, want[side], () -> forms.boxOf(shape, asked));
        }
    }

    private static void boxes() {
        ShapeForms forms = new ShapeForms();
        box("a circle", forms, forms.circle(1, 2, 5), -4, -3, 6, 7);
        box("a round box", forms, forms.box(-3, 10, 6, 4, 2), -3, 10, 3, 14);
        box("a grown box", forms, forms.grow(forms.box(-3, 10, 6, 4, 2), 3), -6, 7, 6, 17);
        box("a trace", forms, Make.trace(forms, 4, 3, 9, -7, 1, 5, 20), -9, -1, 7, 22);
        int polygon = Make.polygon(forms, 0, 0, 9, -2, 4, 8);
        box("a polygon", forms, polygon, 0, -2, 9, 8);
        Make.ring(forms, polygon, -30, 1, -20, 1, -20, 50);
        box("with a second ring", forms, polygon, -30, -2, 9, 50);
        box("grown", forms, forms.grow(polygon, 7), -37, -9, 16, 57);
        Make.ring(forms, polygon, 900, 900, 999, 999);
        box("after an empty ring", forms, polygon, -30, -2, 9, 50);
        box("beyond the places", forms, forms.circle(-Make.FAR, Make.FAR, Make.BILLION),
                -1_500_000_000L, -Make.FAR, Make.FAR, 1_500_000_000L);
    }

    private static void wrongCalls() {
        ShapeForms forms = new ShapeForms();
        int circle = forms.circle(0, 0, 5);
        int unfinished = Make.unfinished(forms);
        int trace = forms.trace(2);
        for (int side : new int[] {-1, 4, Integer.MIN_VALUE, Integer.MAX_VALUE}) {
            Check.noSuch("11: side " + side, () -> forms.boxOf(circle, side));
        }
        Check.noSuch("11: no such shape", () -> forms.boxOf(3, 0));
        Check.noSuch("11: below 0", () -> forms.boxOf(-1, 0));
        Check.noSuch("11: no side, and not whole", () -> forms.boxOf(trace, 4));
        Check.badState("11: not whole", () -> forms.boxOf(unfinished, 0));
        Check.badState("11: no corners", () -> forms.boxOf(trace, 3));
    }
}
