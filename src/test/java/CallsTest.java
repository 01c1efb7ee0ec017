/** "An object is used for at most 512 calls after it has been made": the 512th is answered as well as the first. */
public final class CallsTest {
    private static final int CALLS = 512;

    private final ShapeForms forms = new ShapeForms();
    private int calls = 0;

    public static void main(String[] args) {
        new CallsTest().refusedCalls();
        new CallsTest().makingCalls();
        new CallsTest().copyingCalls();
        new CallsTest().cornersAndRings();
        new CallsTest().dearCalls();
        Check.end("CallsTest");
    }

    private boolean more() {
        return calls < CALLS - 1;
    }

    private void due(String what, Object want, Check.Call call) {
        calls++;
        Check.due("call " + calls + ": " + what, want, call);
    }

    private void last(String what, Object want, Check.Call call) {
        Check.due(what + ": so many calls were made", CALLS - 1, () -> calls);
        due(what, want, call);
    }

    /** 511 calls that are refused make nothing: the 512th makes the first shape. */
    private void refusedCalls() {
        while (more()) {
            switch (calls % 8) {
                case 0: due("no place", Edges.BAD_ARGUMENT, () -> forms.circle(Make.FAR + 1, 0, 1)); break;
                case 1: due("no box", Edges.BAD_ARGUMENT, () -> forms.box(0, 0, 4, 4, 3)); break;
                case 2: due("odd", Edges.BAD_ARGUMENT, () -> forms.trace(3)); break;
                case 3: due("no shape to grow", Edges.NO_SUCH, () -> forms.grow(0, 1)); break;
                case 4: due("no shape to turn", Edges.NO_SUCH, () -> forms.turn(0, 1, false)); break;
                case 5: due("no shape with corners", Edges.NO_SUCH, () -> forms.corner(0, 1, 1)); break;
                case 6: due("no polygon", Edges.NO_SUCH, () -> forms.ring(0)); break;
                default: due("no kind", Edges.NO_SUCH, () -> forms.kind(0)); break;
            }
        }
        last("the first shape", 0, () -> forms.polygon());
    }

    private void makingCalls() {
        while (more()) {
            int number = calls < 40 ? calls : ShapeForms.NONE;
            switch (calls % 4) {
                case 0: due("a circle", number, () -> forms.circle(calls, 0, 1)); break;
                case 1: due("a box", number, () -> forms.box(calls, 0, 4, 4, 1)); break;
                case 2: due("a polygon", number, () -> forms.polygon()); break;
                default: due("a trace", number, () -> forms.trace(2)); break;
            }
        }
        last("the last shape is the 40th", 3, () -> forms.kind(39));
    }

    /** Copies of copies, 48 corners each: 36 quarters are nine times round. */
    private void copyingCalls() {
        Make.fullPolygon(forms);
        calls += 50;
        while (more()) {
            int made = calls - 49;
            due("turned", made < 40 ? made : ShapeForms.NONE, () -> forms.turn(Math.min(made - 1, 39), 1, false));
        }
        last("all round again", true, () -> forms.same(0, 36));
    }

    /** A polygon filled with corners that are taken away, again and again, still becomes what it is to be. */
    private void cornersAndRings() {
        due("a polygon", 0, () -> forms.polygon());
        for (int round = 0; round < 10; round++) {
            for (int i = 0; i < 48; i++) {
                long x = i;
                due("a corner", true, () -> forms.corner(0, x, x % 2));
            }
            due("refused", false, () -> forms.ring(0));
        }
        due("a corner", true, () -> forms.corner(0, 0, 0));
        due("a corner", true, () -> forms.corner(0, 9, 0));
        due("a corner", true, () -> forms.corner(0, 0, 9));
        due("a ring", true, () -> forms.ring(0));
        while (more()) {
            due("no corners", Edges.BAD_STATE, () -> forms.ring(0));
        }
        last("whole", 9L, () -> forms.boxOf(0, 2));
    }

    private void dearCalls() {
        Make.fullPolygon(forms);
        Make.fullTrace(forms);
        calls += 99;
        due("beside", 2, () -> forms.turn(0, 2, false));
        while (more()) {
            switch (calls % 4) {
                case 0: due("near", 0, () -> forms.nearer(0, 2, 0)); break;
                case 1: due("grown", 1, () -> forms.nearer(1, 2, 1)); break;
                case 2: due("not the same", false, () -> forms.same(0, 2)); break;
                default: due("inside", true, () -> forms.inside(0, 23, -50)); break;
            }
        }
        last("the same", true, () -> forms.same(2, 2));
    }
}
