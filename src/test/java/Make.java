/** Short ways to make the shapes of the tests. */
final class Make {
    static final long FAR = 500_000_000L;
    static final long BILLION = 1_000_000_000L;

    private Make() {
    }

    /** Adds corners, told as x, y, x, y and so on. */
    static void corners(ShapeForms forms, int shape, long... places) {
        for (int i = 0; i + 1 < places.length; i += 2) {
            forms.corner(shape, places[i], places[i + 1]);
        }
    }

    static boolean ring(ShapeForms forms, int polygon, long... places) {
        corners(forms, polygon, places);
        return forms.ring(polygon);
    }

    static int polygon(ShapeForms forms, long... places) {
        int shape = forms.polygon();
        ring(forms, shape, places);
        return shape;
    }

    static int trace(ShapeForms forms, long width, long... places) {
        int shape = forms.trace(width);
        corners(forms, shape, places);
        return shape;
    }

    /** A square from 0, 0 to 20, 20 with a square hole from 5, 5 to 15, 15. */
    static int frame(ShapeForms forms) {
        int shape = polygon(forms, 0, 0, 20, 0, 20, 20, 0, 20);
        ring(forms, shape, 5, 5, 5, 15, 15, 15, 15, 5);
        return shape;
    }

    /** A polygon that is not whole: it has a ring and a corner behind it. */
    static int unfinished(ShapeForms forms) {
        int shape = frame(forms);
        forms.corner(shape, 8, 8);
        return shape;
    }

    static void fill(ShapeForms forms) {
        for (int i = 0; i < 40; i++) {
            forms.circle(i, 0, 1);
        }
    }
}
