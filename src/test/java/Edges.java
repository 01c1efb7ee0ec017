/** Boundary cases that several promises have in common: each promise's test runs them on its own call. */
final class Edges {
    static final String NO_SUCH = "throws.IndexOutOfBoundsException";
    static final String BAD_STATE = "throws.IllegalStateException";
    static final String BAD_ARGUMENT = "throws.IllegalArgumentException";

    interface Build {
        void on(ShapeForms forms);
    }

    interface Call {
        Object on(ShapeForms forms);
    }

    interface ShapeCall {
        Object on(ShapeForms forms, int shape);
    }

    interface PlaceCall {
        Object on(ShapeForms forms, long x, long y);
    }

    interface NumberCall {
        Object on(ShapeForms forms, long number);
    }

    private Edges() {
    }

    /** The call answers so, and all stays as in an object where it was not made. */
    static void leaves(String what, Object want, Build build, Call call) {
        ShapeForms with = new ShapeForms();
        ShapeForms without = new ShapeForms();
        build.on(with);
        build.on(without);
        Check.due(what, want, () -> call.on(with));
        Check.due(what + ": all stays as it was", State.of(without), () -> State.of(with));
    }

    /** The call is answered, whatever it answers. */
    static void fine(String what, Build build, Call call) {
        ShapeForms forms = new ShapeForms();
        build.on(forms);
        String answer = Check.answerOf(() -> call.on(forms));
        Check.due(what + " is fine", "answered", () -> answer.startsWith("throws.") ? answer : "answered");
    }

    /** "SHAPES have the numbers 0 .. 39": the last one made, a sample of one shape, is the last that is one. */
    static void shapeNumbers(String promise, Sample last, ShapeCall call) {
        for (int made : new int[] {0, 1, 2, 39, 40}) {
            Build build = forms -> {
                Make.circles(forms, made == 0 ? 0 : made - 1);
                if (made > 0) {
                    last.on(forms);
                }
            };
            String of = " of " + made + " shapes";
            for (int number : new int[] {-1, made, made + 1, 40, Integer.MIN_VALUE, Integer.MAX_VALUE}) {
                leaves(promise + ": shape " + number + of, NO_SUCH, build, forms -> call.on(forms, number));
            }
            if (made > 0) {
                fine(promise + ": shape " + (made - 1) + of, build, forms -> call.on(forms, made - 1));
            }
        }
    }

    /** "A shape is WHOLE but for ...": the call asks for a WHOLE one. Shape 0 is one, for calls of two shapes. */
    static void needsWhole(String promise, ShapeCall call) {
        for (Sample sample : Sample.values()) {
            int[] shape = new int[1];
            Build build = forms -> {
                forms.circle(0, 0, 1);
                shape[0] = sample.on(forms);
            };
            if (sample.whole) {
                fine(promise + ": " + sample, build, forms -> call.on(forms, shape[0]));
            } else {
                leaves(promise + ": " + sample, BAD_STATE, build, forms -> call.on(forms, shape[0]));
            }
        }
    }

    /** "PLACES are two whole numbers from -500,000,000 to 500,000,000". */
    static void places(String promise, Build build, PlaceCall call) {
        for (long x : new long[] {-Make.FAR, 0, Make.FAR}) {
            for (long y : new long[] {-Make.FAR, 0, Make.FAR}) {
                fine(promise + ": the place " + x + ", " + y, build, forms -> call.on(forms, x, y));
            }
        }
        for (long far : outOf(-Make.FAR, Make.FAR)) {
            leaves(promise + ": no place for x " + far, BAD_ARGUMENT, build, forms -> call.on(forms, far, 0));
            leaves(promise + ": no place for y " + far, BAD_ARGUMENT, build, forms -> call.on(forms, 0, far));
            leaves(promise + ": no place for both " + far, BAD_ARGUMENT, build, forms -> call.on(forms, far, far));
        }
    }

    /** A number has a least and a greatest value; one less and one more are wrong, and so is all beyond. */
    static void numbers(String what, long least, long greatest, Build build, NumberCall call) {
        fine(what + " " + least, build, forms -> call.on(forms, least));
        fine(what + " " + greatest, build, forms -> call.on(forms, greatest));
        for (long number : outOf(least, greatest)) {
            leaves(what + " " + number, BAD_ARGUMENT, build, forms -> call.on(forms, number));
        }
    }

    /** Besides the next numbers: the ends of long, and numbers whose lower 32 bits alone would be fine. */
    private static long[] outOf(long least, long greatest) {
        long wrap = 1L << 32;
        return new long[] {least - 1, greatest + 1, Long.MIN_VALUE, Long.MAX_VALUE, wrap, -wrap, wrap + 2, wrap << 31};
    }

    /** "NONE when there are 40 shapes": the 40th has its number, and no call makes a 41st. */
    static void full(String promise, Call call) {
        ShapeForms forms = new ShapeForms();
        Make.circles(forms, 39);
        Check.due(promise + ": the 40th shape", 39, () -> call.on(forms));
        Check.due(promise + ": no 41st behind it", -1, () -> call.on(forms));
        leaves(promise + ": no 41st", ShapeForms.NONE, Make::fill, call);
    }
}
