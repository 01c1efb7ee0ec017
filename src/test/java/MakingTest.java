/** Promises 1 to 5: a new object, circle, box, polygon, trace. */
public final class MakingTest {
    public static void main(String[] args) {
        newObject();
        circles();
        boxes();
        wrongBoxes();
        polygons();
        traces();
        fullObject();
        Check.end("MakingTest");
    }

    private static void newObject() {
        ShapeForms forms = new ShapeForms();
        Check.due("1: NONE", -1, () -> ShapeForms.NONE);
        for (int number : new int[] {0, 1, 39, 40, -1, Integer.MIN_VALUE, Integer.MAX_VALUE}) {
            Check.noSuch("1: a new object has no shape " + number, () -> forms.kind(number));
        }
        ShapeForms second = new ShapeForms();
        second.circle(0, 0, 1);
        Check.noSuch("1: objects share no shapes", () -> forms.kind(0));
    }

    private static void circles() {
        ShapeForms forms = new ShapeForms();
        Check.due("2: the first number", 0, () -> forms.circle(3, -4, 5));
        Check.due("2: the second number", 1, () -> forms.circle(Make.FAR, -Make.FAR, Make.BILLION));
        Check.due("2: no radius is a radius", 2, () -> forms.circle(-Make.FAR, Make.FAR, 0));
        Check.due("2: kind", 0, () -> forms.kind(0));
        Check.due("2: least x", -2L, () -> forms.boxOf(0, 0));
        Check.due("2: greatest y", 1L, () -> forms.boxOf(0, 3));
        Check.due("2: the greatest circle", 1_500_000_000L, () -> forms.boxOf(1, 2));
        Check.badArgument("2: x too great", () -> forms.circle(Make.FAR + 1, 0, 1));
        Check.badArgument("2: x too small", () -> forms.circle(-Make.FAR - 1, 0, 1));
        Check.badArgument("2: y too great", () -> forms.circle(0, Make.FAR + 1, 1));
        Check.badArgument("2: y too small", () -> forms.circle(0, -Make.FAR - 1, 1));
        Check.badArgument("2: r below 0", () -> forms.circle(0, 0, -1));
        Check.badArgument("2: r too great", () -> forms.circle(0, 0, Make.BILLION + 1));
        Check.badArgument("2: the least long", () -> forms.circle(Long.MIN_VALUE, 0, 1));
        Check.badArgument("2: the greatest long", () -> forms.circle(0, 0, Long.MAX_VALUE));
        Check.due("2: a refused one takes no number", 3, () -> forms.circle(0, 0, 1));
    }

    private static void boxes() {
        ShapeForms forms = new ShapeForms();
        Check.due("3: its number", 0, () -> forms.box(0, 10, 6, 4, 2));
        Check.due("3: kind", 1, () -> forms.kind(0));
        Check.due("3: the edge", true, () -> forms.inside(0, 0, 12));
        Check.due("3: the corner is round", false, () -> forms.inside(0, 0, 10));
        Check.due("3: greatest x", 6L, () -> forms.boxOf(0, 2));
        Check.due("3: the core has no height", 12L, () -> forms.boxOf(forms.grow(0, -2), 3));
        Check.due("3: all places", 2, () -> forms.box(-Make.FAR, -Make.FAR, Make.BILLION, Make.BILLION, 0));
        Check.due("3: rounded by the half", 3,
                () -> forms.box(-Make.FAR, -Make.FAR, Make.BILLION, Make.BILLION, Make.FAR));
        Check.due("3: one place", 4, () -> forms.box(7, 7, 0, 0, 0));
        Check.due("3: that place", true, () -> forms.inside(4, 7, 7));
        Check.due("3: no other place", false, () -> forms.inside(4, 7, 8));
        Check.due("3: of no height", 5, () -> forms.box(0, 0, 5, 0, 0));
        Check.due("3: of no width", 6, () -> forms.box(0, 0, 0, 5, 0));
        Check.due("3: a square corner belongs to it", true, () -> forms.inside(2, Make.FAR, -Make.FAR));
        Check.due("3: odd width, rounded below its half", 7, () -> forms.box(0, 0, 5, 5, 2));
        Check.due("3: its core is a square of 1", true, () -> forms.same(forms.grow(7, -2), forms.box(2, 2, 1, 1, 0)));
    }

    private static void wrongBoxes() {
        ShapeForms forms = new ShapeForms();
        Check.badArgument("3: x no place", () -> forms.box(-Make.FAR - 1, 0, 4, 4, 0));
        Check.badArgument("3: y no place", () -> forms.box(0, -Make.FAR - 1, 4, 4, 0));
        Check.badArgument("3: w below 0", () -> forms.box(0, 0, -1, 4, 0));
        Check.badArgument("3: h below 0", () -> forms.box(0, 0, 4, -1, 0));
        Check.badArgument("3: w too great", () -> forms.box(-Make.FAR, 0, Make.BILLION + 1, 4, 0));
        Check.badArgument("3: h too great", () -> forms.box(0, -Make.FAR, 4, Make.BILLION + 1, 0));
        Check.badArgument("3: x + w no place", () -> forms.box(1, 0, Make.FAR, 4, 0));
        Check.badArgument("3: y + h no place", () -> forms.box(0, 1, 4, Make.FAR, 0));
        Check.badArgument("3: r below 0", () -> forms.box(0, 0, 4, 4, -1));
        Check.badArgument("3: r over the half of w", () -> forms.box(0, 0, 5, 9, 3));
        Check.badArgument("3: r over the half of h", () -> forms.box(0, 0, 9, 5, 3));
        Check.badArgument("3: r far over", () -> forms.box(0, 0, 4, 4, Long.MAX_VALUE));
        Check.badArgument("3: w and h far over", () -> forms.box(0, 0, Long.MAX_VALUE, Long.MAX_VALUE, 0));
        Check.due("3: none of them took a number", 0, () -> forms.box(0, 0, 4, 4, 2));
    }

    private static void polygons() {
        ShapeForms forms = new ShapeForms();
        Check.due("4: its number", 0, forms::polygon);
        Check.due("4: kind", 2, () -> forms.kind(0));
        Check.badState("4: it is not whole", () -> forms.inside(0, 0, 0));
        Check.badState("4: it has no corners", () -> forms.ring(0));
        Make.ring(forms, 0, 0, 0, 4, 0, 0, 4);
        Check.due("4: its radius is 0", 0L, () -> forms.boxOf(0, 0));
        Check.due("4: the next number", 1, forms::polygon);
    }

    private static void traces() {
        ShapeForms forms = new ShapeForms();
        Check.due("5: its number", 0, () -> forms.trace(6));
        Check.due("5: kind", 3, () -> forms.kind(0));
        Check.badState("5: it is not whole", () -> forms.boxOf(0, 0));
        Make.corners(forms, 0, 10, 0);
        Check.due("5: its radius is half the width", 7L, () -> forms.boxOf(0, 0));
        Check.due("5: no width", 1, () -> forms.trace(0));
        Check.due("5: the greatest width", 2, () -> forms.trace(2 * Make.BILLION));
        Make.corners(forms, 2, 0, 0);
        Check.due("5: the greatest radius", Make.BILLION, () -> forms.boxOf(2, 3));
        for (long width : new long[] {1, 3, -1, -2, 2 * Make.BILLION + 1, 2 * Make.BILLION + 2,
                Long.MIN_VALUE, Long.MAX_VALUE}) {
            Check.badArgument("5: width " + width, () -> forms.trace(width));
        }
        Check.due("5: none of them took a number", 3, () -> forms.trace(2));
    }

    private static void fullObject() {
        ShapeForms forms = new ShapeForms();
        Make.fill(forms);
        Check.due("2: the 40th", 0, () -> forms.kind(39));
        Check.noSuch("2: no 41st", () -> forms.kind(40));
        Check.due("2: full", -1, () -> forms.circle(0, 0, 1));
        Check.due("3: full", -1, () -> forms.box(0, 0, 4, 4, 1));
        Check.due("4: full", -1, forms::polygon);
        Check.due("5: full", -1, () -> forms.trace(2));
        Check.badArgument("2: full, and no place", () -> forms.circle(Make.FAR + 1, 0, 1));
        Check.badArgument("3: full, and no box", () -> forms.box(0, 0, 4, 4, 3));
        Check.badArgument("5: full, and odd", () -> forms.trace(3));
        Check.due("2: the others stay", 40L, () -> forms.boxOf(39, 2));
    }
}
