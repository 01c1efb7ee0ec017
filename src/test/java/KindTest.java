/** Promise 13: kind. */
public final class KindTest {
    public static void main(String[] args) {
        ShapeForms forms = new ShapeForms();
        int frame = Make.frame(forms);
        Check.due("13: a circle", 0, () -> forms.kind(forms.circle(0, 0, 5)));
        Check.due("13: a box", 1, () -> forms.kind(forms.box(0, 0, 4, 4, 0)));
        Check.due("13: a box of one place", 1, () -> forms.kind(forms.box(0, 0, 0, 0, 0)));
        Check.due("13: a polygon without corners", 2, () -> forms.kind(forms.polygon()));
        Check.due("13: a polygon", 2, () -> forms.kind(frame));
        Check.due("13: an unfinished polygon", 2, () -> forms.kind(Make.unfinished(forms)));
        Check.due("13: a trace without corners", 3, () -> forms.kind(forms.trace(4)));
        Check.due("13: a trace of no width", 3, () -> forms.kind(Make.trace(forms, 0, 1, 1)));
        Check.due("13: a grown polygon", 4, () -> forms.kind(forms.grow(frame, 1)));
        Check.due("13: grown by 0", 2, () -> forms.kind(forms.grow(frame, 0)));
        Check.due("13: grown and shrunk", 2, () -> forms.kind(forms.grow(forms.grow(frame, 5), -5)));
        Check.due("13: a grown circle", 0, () -> forms.kind(forms.grow(forms.circle(0, 0, 5), 5)));
        Check.noSuch("13: below 0", () -> forms.kind(-1));
        Check.noSuch("13: the next number", () -> forms.kind(forms.circle(0, 0, 1) + 1));
        Check.noSuch("13: 40", () -> forms.kind(40));
        Check.noSuch("13: the greatest int", () -> forms.kind(Integer.MAX_VALUE));
        Check.end("KindTest");
    }
}
