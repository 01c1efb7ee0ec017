/** All that an object tells of its shapes, as one text. Asking closes open rings and makes a shape: it comes last. */
final class State {
    private static final long[][] PROBES = {{0, 0}, {2, 2}, {10, 10}, {-7, 3}};

    private State() {
    }

    /** For 40 shapes, of which few have corners, this takes some 220 calls: all stays within the 512. */
    static String of(ShapeForms forms) {
        StringBuilder text = new StringBuilder();
        boolean more = true;
        for (int shape = 0; more; shape++) {
            more = tell(text, forms, shape);
        }
        add(text, "a new circle", () -> forms.circle(0, 0, 0));
        return text.toString();
    }

    private static boolean tell(StringBuilder text, ShapeForms forms, int shape) {
        String kind = Check.answerOf(() -> forms.kind(shape));
        text.append("\n").append(shape).append(" of kind ").append(kind);
        if (shape > 40 || kind.startsWith("throws.")) {
            return false;
        }
        for (int side = 0; side < 4; side++) {
            int asked = side;
            add(text, "side " + side, () -> forms.boxOf(shape, asked));
        }
        if (kind.equals("2") || kind.equals("3")) {
            tellCorners(text, forms, shape);
        }
        return true;
    }

    private static void tellCorners(StringBuilder text, ShapeForms forms, int shape) {
        add(text, "ring", () -> forms.ring(shape));
        for (int side = 0; side < 4; side++) {
            int asked = side;
            add(text, "then side " + side, () -> forms.boxOf(shape, asked));
        }
        for (long[] probe : PROBES) {
            add(text, "at " + probe[0] + ", " + probe[1], () -> forms.inside(shape, probe[0], probe[1]));
        }
    }

    private static void add(StringBuilder text, String what, Check.Call call) {
        text.append(", ").append(what).append(": ").append(Check.answerOf(call));
    }
}
