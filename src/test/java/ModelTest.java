import java.util.Random;
import java.util.TreeMap;

/** Runs of calls on ShapeForms and on the Model: every answer and every exception must agree. */
public final class ModelTest {
    private static final int RUNS = 1200;
    private static final int CALLS = 512;
    /** What one step makes at the most, so that no run goes beyond the calls that are promised. */
    private static final int STEP = 50;

    private final Random random;
    private final TreeMap<String, Integer> seen;
    private final int run;
    private ShapeForms forms;
    private Model model;
    private int calls;
    /** Places of a run lie on few lines, so that much touches, crosses and coincides. */
    private long grid;
    private long unit;
    private boolean jitter;

    private ModelTest(int run, TreeMap<String, Integer> seen) {
        this.run = run;
        this.seen = seen;
        random = new Random(7919L * run + 1);
        forms = new ShapeForms();
        model = new Model();
        grid = new long[] {2, 3, 4, 6, 10, 25}[run % 6];
        unit = new long[] {1, 1, 7, 500_000_000L / grid}[run / 6 % 4];
        jitter = unit > 1 && random.nextBoolean();
    }

    public static void main(String[] args) {
        TreeMap<String, Integer> seen = new TreeMap<>();
        for (int run = 0; run < RUNS; run++) {
            new ModelTest(run, seen).go();
        }
        // A run that never comes to the telling answers would prove little.
        for (String answer : new String[] {"touching 0", "touching -1", "nearer 0", "nearer 1", "nearer -1",
                "same true", "same false", "ring true", "ring false", "inside true", "inside false", "kind 4"}) {
            System.out.println(answer + ": " + seen.get(answer));
            Check.due("the runs come to " + answer + " often", true, () -> seen.getOrDefault(answer, 0) > 500);
        }
        Check.end("ModelTest");
    }

    private void go() {
        while (calls < CALLS - STEP) {
            int what = random.nextInt(100);
            if (what < 14) {
                make();
            } else if (what < 24) {
                derive();
            } else if (what < 31) {
                moreCorners();
            } else if (what < 34) {
                wrong();
            } else {
                ask();
            }
        }
    }

    private void due(String call, Check.Call want, Check.Call got) {
        calls++;
        String answer = Check.answerOf(want);
        Check.due("run " + run + ", call " + calls + ": " + call, answer, got);
        seen.merge(call.substring(0, call.indexOf('(')) + " " + answer, 1, Integer::sum);
    }

    // ---- inputs

    private long number() {
        long number = (random.nextInt((int) (2 * grid + 1)) - grid) * unit;
        if (jitter && random.nextInt(4) == 0) {
            number += random.nextInt(3) - 1;
        }
        return Math.max(-500_000_000L, Math.min(500_000_000L, number));
    }

    private long radius() {
        if (random.nextInt(3) == 0) {
            return 0;
        }
        return Math.min(1_000_000_000L, random.nextInt((int) grid + 1) * unit + (jitter ? random.nextInt(2) : 0));
    }

    private int some() {
        return model.count() == 0 ? 0 : random.nextInt(model.count());
    }

    // ---- calls

    private void make() {
        switch (random.nextInt(8)) {
            case 0: circle(number(), number(), radius()); break;
            case 1: makeBox(); break;
            case 2: trace(2 * radius()); someCorners(model.count() - 1, 1 + random.nextInt(5)); break;
            case 3: makeOnOneLine(); break;
            case 4: makeNest(); break;
            case 5: makeComb(); break;
            default: polygon(); closeRing(model.count() - 1, 3 + random.nextInt(4)); break;
        }
    }

    private void makeBox() {
        long x = number();
        long y = number();
        long w = Math.max(0, number() - x);
        long h = Math.max(0, number() - y);
        long r = random.nextInt(3) == 0 ? Math.min(w, h) / 2 : Math.min(radius(), Math.min(w, h) / 2);
        box(x, y, w, h, r);
    }

    /** Traces along one line in one width are often the same core, told in other words. */
    private void makeOnOneLine() {
        trace(0);
        boolean upright = random.nextBoolean();
        for (int i = random.nextInt(5) + 1; i >= 0; i--) {
            long along = (random.nextInt(4) - 1) * unit;
            corner(model.count() - 1, upright ? 0 : along, upright ? along : 0);
        }
    }

    /** Squares one in another, one of them sometimes split by a straight corner, the rings in any order. */
    private void makeNest() {
        polygon();
        int nest = model.count() - 1;
        long step = Math.max(1, unit / 2);
        long most = Math.min(500_000_000L / step, 2 * grid);
        for (int i = 1 + random.nextInt(3); i > 0; i--) {
            long half = (1 + random.nextInt((int) most)) * step;
            corner(nest, half, half);
            if (random.nextBoolean()) {
                corner(nest, 0, half);
            }
            corner(nest, -half, half);
            corner(nest, -half, -half);
            corner(nest, half, -half);
            ring(nest);
        }
        if (random.nextBoolean()) {
            grow(nest, step * random.nextInt(3));
        }
    }

    /** A ring of many corners that does not cross itself: teeth of any length on one side of a line. */
    private void makeComb() {
        polygon();
        int comb = model.count() - 1;
        int teeth = 1 + random.nextInt(20);
        long step = Math.max(1, Math.min(unit, 1_000_000_000L / (2 * teeth + 2)));
        long left = -step * teeth;
        boolean flip = random.nextBoolean();
        for (int i = 0; i <= 2 * teeth; i++) {
            long height = i % 2 == 0 ? 0 : Math.abs(number()) + 1;
            height = Math.min(height, 500_000_000L);
            corner(comb, flip ? height : left + i * step, flip ? left + i * step : height);
        }
        long low = -1 - random.nextInt(3) * step;
        corner(comb, flip ? Math.max(low, -500_000_000L) : 0, flip ? 0 : Math.max(low, -500_000_000L));
        ring(comb);
    }

    private void someCorners(int shape, int many) {
        for (int i = 0; i < many; i++) {
            corner(shape, number(), number());
        }
    }

    private void closeRing(int shape, int many) {
        someCorners(shape, many);
        ring(shape);
    }

    private void moreCorners() {
        int shape = some();
        switch (random.nextInt(5)) {
            case 0: someCorners(shape, 1); break;
            case 1: ring(shape); break;
            default: closeRing(shape, 3 + random.nextInt(3)); break;
        }
    }

    private void derive() {
        int shape = some();
        switch (random.nextInt(4)) {
            case 0: grow(shape, radius()); break;
            case 1: grow(shape, -radius()); break;
            default: turn(shape, random.nextInt(9) - 4, random.nextBoolean()); break;
        }
    }

    private void ask() {
        int shape = some();
        switch (random.nextInt(9)) {
            case 0: boxOf(shape, random.nextInt(4)); break;
            case 1: kind(shape); break;
            case 2: case 3: same(shape, some()); break;
            case 4: case 5: inside(shape, number(), number()); break;
            default: askNearer(shape, some()); break;
        }
    }

    private void askNearer(int a, int b) {
        if (model.count() == 0) {
            return;
        }
        long distance = Math.min(999_999_999L, model.wholeDistance(a, b));
        switch (random.nextInt(4)) {
            case 0: nearer(a, b, distance + 1); break;
            case 1: nearer(a, b, Math.max(0, distance - 1)); break;
            case 2: nearer(a, b, random.nextInt(3) * unit); break;
            default: nearer(a, b, distance); break;
        }
    }

    private void wrong() {
        int shape = random.nextInt(45) - 2;
        long far = 500_000_001L * (random.nextBoolean() ? 1 : -1);
        switch (random.nextInt(9)) {
            case 0: circle(far, number(), radius()); break;
            case 1: box(number(), number(), number(), number(), number()); break;
            case 2: trace(number()); break;
            case 3: corner(shape, number(), far); break;
            case 4: grow(shape, 4 * far); break;
            case 5: inside(shape, far, number()); break;
            case 6: nearer(shape, some(), number() * 3); break;
            case 7: boxOf(shape, random.nextInt(7) - 2); break;
            default: same(some(), shape); turn(shape, random.nextInt(), true); kind(shape); break;
        }
    }

    private void circle(long x, long y, long r) {
        due("circle(" + x + ", " + y + ", " + r + ")", () -> model.circle(x, y, r), () -> forms.circle(x, y, r));
    }

    private void box(long x, long y, long w, long h, long r) {
        due("box(" + x + ", " + y + ", " + w + ", " + h + ", " + r + ")", () -> model.box(x, y, w, h, r),
                () -> forms.box(x, y, w, h, r));
    }

    private void polygon() {
        due("polygon()", () -> model.polygon(), () -> forms.polygon());
    }

    private void trace(long width) {
        due("trace(" + width + ")", () -> model.trace(width), () -> forms.trace(width));
    }

    private void corner(int shape, long x, long y) {
        due("corner(" + shape + ", " + x + ", " + y + ")", () -> model.corner(shape, x, y),
                () -> forms.corner(shape, x, y));
    }

    private void ring(int shape) {
        due("ring(" + shape + ")", () -> model.ring(shape), () -> forms.ring(shape));
    }

    private void grow(int shape, long by) {
        due("grow(" + shape + ", " + by + ")", () -> model.grow(shape, by), () -> forms.grow(shape, by));
    }

    private void inside(int shape, long x, long y) {
        due("inside(" + shape + ", " + x + ", " + y + ")", () -> model.inside(shape, x, y),
                () -> forms.inside(shape, x, y));
    }

    private void nearer(int a, int b, long distance) {
        due((distance > 0 ? "nearer" : "touching") + "(" + a + ", " + b + ", " + distance + ")",
                () -> model.nearer(a, b, distance), () -> forms.nearer(a, b, distance));
    }

    private void boxOf(int shape, int side) {
        due("boxOf(" + shape + ", " + side + ")", () -> model.boxOf(shape, side), () -> forms.boxOf(shape, side));
    }

    private void turn(int shape, int quarters, boolean mirrored) {
        due("turn(" + shape + ", " + quarters + ", " + mirrored + ")", () -> model.turn(shape, quarters, mirrored),
                () -> forms.turn(shape, quarters, mirrored));
    }

    private void kind(int shape) {
        due("kind(" + shape + ")", () -> model.kind(shape), () -> forms.kind(shape));
    }

    private void same(int a, int b) {
        due((a == b ? "self" : "same") + "(" + a + ", " + b + ")", () -> model.same(a, b),
                () -> forms.same(a, b));
    }
}
