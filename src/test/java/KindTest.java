/** Promise 13: kind. */
public final class KindTest {
    public static void main(String[] args) {
        ShapeForms forms = new ShapeForms();
        int frame = Make.frame(forms);
        Check.due("13: a circle", 0, () -> forms.kind(forms.circle(0, 0, 5)));
        Check.due("13: a box", 1, () -> forms.kind(forms.box(0, 0, 4, 4, 0)));
        Check.due("13: a box of one place", 1, () -> forms.kind(forms.box(0, 0, 0, 0, 0)));
        Check.due("13: a polygon without corners", 2, () -> forms.kind(forms.polygon()));
        Check.due("13: a polygon", 2, () -> forms.kind(frame));
        Check.due("13: an unfinished polygon", 2, () -> forms.kind(Make.unfinished(forms)));
        Check.due("13: a trace without corners", 3, () -> forms.kind(forms.trace(4)));
        Check.due("13: a trace of no width", 3, () -> forms.kind(Make.trace(forms, 0, 1, 1)));
        Check.due("13: a grown polygon", 4, () -> forms.kind(forms.grow(frame, 1)));
        Check.due("13: grown by 0", 2, () -> forms.kind(forms.grow(frame, 0)));
        Check.due("13: grown and shrunk", 2, () -> forms.kind(forms.grow(forms.grow(frame, 5), -5)));
        Check.due("13: a grown circle", 0, () -> forms.kind(forms.grow(forms.circle(0, 0, 5), 5)));
        Check.due("13: a grown box", 1, () -> forms.kind(forms.grow(forms.box(0, 0, 4, 4, 0), 5)));
        Check.due("13: a grown trace", 3, () -> forms.kind(forms.grow(Make.trace(forms, 0, 1, 1), 5)));
        Check.due("13: a grown polygon, turned", 4, () -> forms.kind(forms.turn(forms.grow(frame, 1), 1, true)));
        Check.due("13: a polygon grown by the most", 4, () -> forms.kind(forms.grow(frame, Make.BILLION)));
        Edges.shapeNumbers("13", Sample.CIRCLE, (more, shape) -> more.kind(shape));
        withoutWhole();
        Check.end("KindTest");
    }

    /** A kind is told of shapes that are not WHOLE, too, and asking changes none of them. */
    private static void withoutWhole() {
        for (Sample sample : Sample.values()) {
            String name = sample.name();
            int kind = name.startsWith("CIRCLE") ? 0 : name.startsWith("BOX") ? 1
                    : name.startsWith("POLYGON") ? 2 : name.startsWith("TRACE") ? 3 : 4;
            int[] shape = new int[1];
            Edges.leaves("13: " + name, kind, forms -> shape[0] = sample.on(forms), forms -> forms.kind(shape[0]));
        }
    }
}
