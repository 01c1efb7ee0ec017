/** Promise 2: circle. */
public final class CircleTest {
    private static final Edges.Build ONE_SHAPE = forms -> forms.circle(7, 7, 7);

    public static void main(String[] args) {
        numbers();
        points();
        Edges.places("2", ONE_SHAPE, (forms, x, y) -> forms.circle(x, y, 1));
        Edges.numbers("2: r", 0, Make.BILLION, ONE_SHAPE, (forms, r) -> forms.circle(0, 0, r));
        Edges.full("2", forms -> forms.circle(3, 4, 5));
        fullAndWrong();
        Check.end("CircleTest");
    }

    private static void numbers() {
        ShapeForms forms = new ShapeForms();
        for (int number = 0; number < 40; number++) {
            int due = number;
            Check.due("2: the number of shape " + number, due, () -> forms.circle(due, 0, 1));
        }
        for (int again = 0; again < 3; again++) {
            Check.due("2: NONE, and again", -1, () -> forms.circle(0, 0, 1));
        }
        Check.due("2: the 40th is itself", 40L, () -> forms.boxOf(39, 2));
        Check.noSuch("2: there is no 41st", () -> forms.kind(40));
    }

    private static void points() {
        ShapeForms forms = new ShapeForms();
        int circle = forms.circle(3, -4, 5);
        Check.due("2: kind", 0, () -> forms.kind(circle));
        Check.due("2: least x", -2L, () -> forms.boxOf(circle, 0));
        Check.due("2: least y", -9L, () -> forms.boxOf(circle, 1));
        Check.due("2: greatest x", 8L, () -> forms.boxOf(circle, 2));
        Check.due("2: greatest y", 1L, () -> forms.boxOf(circle, 3));
        int place = forms.circle(-Make.FAR, Make.FAR, 0);
        Check.due("2: a radius of 0 holds its place", true, () -> forms.inside(place, -Make.FAR, Make.FAR));
        Check.due("2: and no other", false, () -> forms.inside(place, 1 - Make.FAR, Make.FAR));
        int greatest = forms.circle(Make.FAR, -Make.FAR, Make.BILLION);
        Check.due("2: the greatest radius, x", 1_500_000_000L, () -> forms.boxOf(greatest, 2));
        Check.due("2: the greatest radius, y", -1_500_000_000L, () -> forms.boxOf(greatest, 1));
    }

    private static void fullAndWrong() {
        Edges.leaves("2: full, and no place", Edges.BAD_ARGUMENT, Make::fill,
                forms -> forms.circle(Make.FAR + 1, 0, 1));
        Edges.leaves("2: full, and no radius", Edges.BAD_ARGUMENT, Make::fill, forms -> forms.circle(0, 0, -1));
    }
}
