/** Promise 1: a new object. */
public final class NewObjectTest {
    public static void main(String[] args) {
        noShapes();
        firstNumbers();
        ownShapes();
        Check.due("1: NONE", -1, () -> ShapeForms.NONE);
        Check.end("NewObjectTest");
    }

    /** "No shapes.": no call knows any number, and a call with one makes nothing. */
    private static void noShapes() {
        for (int number = -1; number <= 40; number++) {
            noShape(number);
        }
        noShape(Integer.MIN_VALUE);
        noShape(Integer.MAX_VALUE);
    }

    private static void noShape(int number) {
        ShapeForms forms = new ShapeForms();
        String what = "1: a new object has no shape " + number + " for ";
        Check.noSuch(what + "corner", () -> forms.corner(number, 0, 0));
        Check.noSuch(what + "ring", () -> forms.ring(number));
        Check.noSuch(what + "grow", () -> forms.grow(number, 0));
        Check.noSuch(what + "inside", () -> forms.inside(number, 0, 0));
        Check.noSuch(what + "nearer", () -> forms.nearer(number, number, 0));
        Check.noSuch(what + "boxOf", () -> forms.boxOf(number, 0));
        Check.noSuch(what + "turn", () -> forms.turn(number, 0, false));
        Check.noSuch(what + "kind", () -> forms.kind(number));
        Check.noSuch(what + "same", () -> forms.same(number, number));
        Check.due("1: nothing was made by a call with " + number, 0, () -> forms.circle(0, 0, 1));
    }

    private static void firstNumbers() {
        Check.due("1: a circle is the first shape", 0, () -> new ShapeForms().circle(0, 0, 1));
        Check.due("1: a box is the first shape", 0, () -> new ShapeForms().box(0, 0, 1, 1, 0));
        Check.due("1: a polygon is the first shape", 0, () -> new ShapeForms().polygon());
        Check.due("1: a trace is the first shape", 0, () -> new ShapeForms().trace(2));
    }

    private static void ownShapes() {
        ShapeForms first = new ShapeForms();
        Make.fill(first);
        ShapeForms second = new ShapeForms();
        Check.noSuch("1: a new object has not the shapes of a full one", () -> second.kind(0));
        Check.due("1: nor is it full", 0, () -> second.polygon());
        Check.due("1: the full one stays so", -1, () -> first.polygon());
        Check.due("1: with its own shapes", 0, () -> first.kind(0));
    }
}
