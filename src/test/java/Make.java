/** Short ways to make the shapes of the tests. */
final class Make {
    static final long FAR = 500_000_000L;
    static final long BILLION = 1_000_000_000L;

    private Make() {
    }

    /** Adds corners, told as x, y, x, y and so on. */
    static void corners(ShapeForms forms, int shape, long... places) {
        for (int i = 0; i + 1 < places.length; i += 2) {
            forms.corner(shape, places[i], places[i + 1]);
        }
    }

    static int cornersOn(ShapeForms forms, int shape, long... places) {
        corners(forms, shape, places);
        return shape;
    }

    static boolean ring(ShapeForms forms, int polygon, long... places) {
        corners(forms, polygon, places);
        return forms.ring(polygon);
    }

    static int ringOn(ShapeForms forms, int polygon, long... places) {
        ring(forms, polygon, places);
        return polygon;
    }

    static int polygon(ShapeForms forms, long... places) {
        return ringOn(forms, forms.polygon(), places);
    }

    static int trace(ShapeForms forms, long width, long... places) {
        return cornersOn(forms, forms.trace(width), places);
    }

    /** A square from 0, 0 to 20, 20 with a square hole from 5, 5 to 15, 15. */
    static int frame(ShapeForms forms) {
        int shape = polygon(forms, 0, 0, 20, 0, 20, 20, 0, 20);
        return ringOn(forms, shape, 5, 5, 5, 15, 15, 15, 15, 5);
    }

    /** A polygon that is not whole: it has a ring and a corner behind it. */
    static int unfinished(ShapeForms forms) {
        return cornersOn(forms, frame(forms), 8, 8);
    }

    /** Teeth along y = 0 and y = 1, from x = 0 to x = many - 1: so many corners of a trace, or of a ring. */
    static void teeth(ShapeForms forms, int shape, int many) {
        for (int i = 0; i < many; i++) {
            forms.corner(shape, i, i % 2);
        }
    }

    /** A trace of 48 corners, as many as there can be. */
    static int fullTrace(ShapeForms forms) {
        int shape = forms.trace(2);
        teeth(forms, shape, 48);
        return shape;
    }

    /** A polygon with 47 corners in teeth, and one far below that closes the ring without touching them. */
    static int openFullPolygon(ShapeForms forms) {
        int shape = forms.polygon();
        teeth(forms, shape, 47);
        forms.corner(shape, 23, -100);
        return shape;
    }

    /** A polygon with one ring of 48 corners. */
    static int fullPolygon(ShapeForms forms) {
        return ringOn(forms, openFullPolygon(forms));
    }

    static void circles(ShapeForms forms, int many) {
        for (int i = 0; i < many; i++) {
            forms.circle(i, 0, 1);
        }
    }

    static void fill(ShapeForms forms) {
        circles(forms, 40);
    }

    /** A full object whose first shape is not whole. */
    static void emptyTraceAndFill(ShapeForms forms) {
        forms.trace(2);
        circles(forms, 39);
    }

    /** How many corners more a shape takes; it has them then. */
    static int free(ShapeForms forms, int shape) {
        int many = 0;
        while (many < 60 && forms.corner(shape, 1000 + many, many % 2)) {
            many++;
        }
        return many;
    }
}
