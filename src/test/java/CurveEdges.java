/** The edges that the document names in ==== 4 and the promises 17 to 19. */
final class CurveEdges extends Edge {
    private static final int[] NO_NUMBERS = {0x7F800001, 0x7FC00000, 0x7FFFFFFF, 0xFF800001, 0xFFC00000, 0xFFFFFFFF};
    private static final int[] FINITE = {0, SIGN, 1, SIGN | 1, 0x007FFFFF, 0x00800000, 0x7F7FFFFF, 0xFF7FFFFF,
        bits(8388608f), bits(16777216f), bits(1), bits(-0.1f)};

    private CurveEdges() {
    }

    static void run() {
        points();
        ys();
        outside();
        between();
        betweenFar();
        holes();
        noPoints();
        bent();
        bentBetween();
        held();
        heldMeanwhile();
        point();
        curve();
        bend();
    }

    private static void points() {
        sentence("==== 4", "CURVES 0 .. 3 have POINTS, 8 at most");
        for (int curve = 0; curve < 4; curve++) {
            CueBoard x = new CueBoard();
            for (int i = 1; i <= 8; i++) {
                due("point(" + curve + ", " + i + ")", x.point(curve, i, bits(i)), i);
            }
            due("a ninth", x.point(curve, 9, bits(9)), FULL);
            due("behind the eighth", x.curve(curve, 9), bits(8));
            for (int other = 0; other < 4; other++) {
                due("a first of " + other, other == curve ? 1 : x.point(other, 0, 0), 1);
            }
        }
        sentence("==== 4", "x rising (0 .. 255)");
        CueBoard x = new CueBoard();
        due("point(0, -1)", x.point(0, -1, 0), BAD);
        due("point(0, 0)", x.point(0, 0, 0), 1);
        due("point(0, 0) again", x.point(0, 0, 0), BAD);
        due("point(0, 1)", x.point(0, 1, 0), 2);
        due("point(0, 0) behind 1", x.point(0, 0, 0), BAD);
        due("point(0, 256)", x.point(0, 256, 0), BAD);
        due("point(0, 255)", x.point(0, 255, 0), 3);
        due("point(0, 255) again", x.point(0, 255, 0), BAD);
        due("point(0, 256) behind 255", x.point(0, 256, 0), BAD);
        due("point(1, 255) as a first", x.point(1, 255, 0), 1);
    }

    private static void ys() {
        sentence("==== 4", "y a float (finite, or no number)");
        for (int y : FINITE) {
            CueBoard x = new CueBoard();
            due("point of " + Integer.toHexString(y), x.point(0, 7, y), 1);
            due("curve of " + Integer.toHexString(y), x.curve(0, 7), y);
        }
        for (int y : NO_NUMBERS) {
            CueBoard x = new CueBoard();
            due("point of " + Integer.toHexString(y), x.point(0, 7, y), 1);
            due("curve of " + Integer.toHexString(y), x.curve(0, 7), HOLE);
        }
        CueBoard x = new CueBoard();
        due("point endless", x.point(0, 7, ENDLESS), BAD);
        due("point endless below", x.point(0, 7, ENDLESS | SIGN), BAD);
    }

    private static void outside() {
        sentence("==== 4", "At v: before the first that one's y, behind the last that one's; at one its y");
        CueBoard x = new CueBoard();
        x.point(0, 100, bits(-3.5f));
        int[] all = {0, 99, 100, 101, 255};
        for (int v : all) {
            due("curve(0, " + v + ") of one point", x.curve(0, v), bits(-3.5f));
        }
        x.point(0, 101, bits(7));
        int[] two = {bits(-3.5f), bits(-3.5f), bits(-3.5f), bits(7), bits(7)};
        for (int i = 0; i < all.length; i++) {
            due("curve(0, " + all[i] + ") of two points", x.curve(0, all[i]), two[i]);
        }
        CueBoard y = new CueBoard();
        y.point(0, 0, SIGN);
        y.point(0, 255, bits(1));
        due("curve(0, 0) of the 0 below 0", y.curve(0, 0), SIGN);
        due("curve(0, 255)", y.curve(0, 255), bits(1));
        CueBoard z = new CueBoard();
        for (int i = 0; i < 8; i++) {
            z.point(3, 2 * i + 10, bits(i * i));
        }
        for (int i = 0; i < 8; i++) {
            due("curve(3) at point " + i, z.curve(3, 2 * i + 10), bits(i * i));
        }
        due("curve(3, 9) before the first", z.curve(3, 9), bits(0));
        due("curve(3, 25) behind the last", z.curve(3, 25), bits(49));
    }

    private static float height(float a, float b, int k, int wide) {
        float part = (float) k / (float) wide;
        float rise = b - a;
        float much = rise * part;
        return a + much;
    }

    private static void compare(int from, int wide, int first, int second) {
        CueBoard x = new CueBoard();
        x.point(2, from, first);
        x.point(2, from + wide, second);
        float a = Float.intBitsToFloat(first);
        float b = Float.intBitsToFloat(second);
        for (int k = 1; k < wide; k++) {
            due("from " + Integer.toHexString(first) + " to " + Integer.toHexString(second) + ", " + k + " of " + wide,
                x.curve(2, from + k), bits(height(a, b, k, wide)));
        }
    }

    private static void between() {
        sentence("==== 4", "between two: y and (the next y less y) times ((v less x) by (the next x less x)), each act as a float");
        CueBoard x = new CueBoard();
        x.point(0, 1, bits(10));
        x.point(0, 3, bits(20));
        x.point(0, 6, bits(-10));
        due("curve(0, 2): a half", x.curve(0, 2), bits(15));
        due("curve(0, 4): a third", x.curve(0, 4), bits(20f + -30f * 0.33333334f));
        due("curve(0, 5): two thirds", x.curve(0, 5), bits(20f + -30f * 0.6666667f));
        compare(0, 255, bits(0), bits(255));
        compare(0, 255, bits(0.1f), bits(-77.7f));
        compare(253, 2, bits(1), bits(2));
        compare(16, 49, bits(16777216f), bits(1));
        for (int first : FINITE) {
            for (int second : FINITE) {
                compare(40, 10, first, second);
            }
        }
    }

    private static void betweenFar() {
        CueBoard x = new CueBoard();
        x.point(0, 0, 0xFF7FFFFF);
        x.point(0, 2, 0x7F7FFFFF);
        x.point(0, 4, 0xFF7FFFFF);
        due("curve(0, 1): the difference is endless", x.curve(0, 1), ENDLESS);
        due("curve(0, 3): endless below", x.curve(0, 3), ENDLESS | SIGN);
        x = new CueBoard();
        x.point(0, 0, SIGN);
        x.point(0, 2, SIGN | 1);
        due("curve(0, 1): what is too small is the 0 below 0", x.curve(0, 1), SIGN);
        x = new CueBoard();
        x.point(0, 0, SIGN);
        x.point(0, 2, SIGN);
        due("curve(0, 1): the 0 below 0 and nothing is 0", x.curve(0, 1), 0);
    }

    private static void holes() {
        sentence("==== 4", "where a y that is wanted is no number there is a HOLE");
        for (int none : NO_NUMBERS) {
            CueBoard x = new CueBoard();
            x.point(0, 10, none);
            x.point(0, 20, bits(5));
            x.point(0, 30, bits(6));
            x.point(0, 40, none);
            int[] v = {0, 9, 10, 11, 19, 20, 21, 29, 30, 31, 39, 40, 41, 255};
            int[] due = {HOLE, HOLE, HOLE, HOLE, HOLE, bits(5), bits(5f + 1f * 0.1f), bits(5f + 1f * 0.9f), bits(6), HOLE, HOLE,
                HOLE, HOLE, HOLE};
            for (int i = 0; i < v.length; i++) {
                due("curve(0, " + v[i] + ")", x.curve(0, v[i]), due[i]);
            }
        }
    }

    private static void noPoints() {
        sentence("==== 4", "without POINTS v itself");
        CueBoard x = new CueBoard();
        x.point(0, 5, 0);
        for (int v = 0; v < 256; v++) {
            due("curve(3, " + v + ")", x.curve(3, v), bits(v));
        }
        due("curve(0, 255), with one", x.curve(0, 255), 0);
        CueBoard y = one(STROBE, 0, 2);
        y.bend(0, 1, 3);
        send(y, 0, 0, 1, 255, 0);
        y.tick(1);
        row(y, 0, 0, 255);
    }

    /** A DIMMER and a STROBE whose LEVEL and RATE, at 7, are BENT to y. */
    private static int bentTo(int y) {
        CueBoard x = one(STROBE, 0, 2);
        x.point(1, 7, y);
        x.bend(0, 0, 1);
        x.bend(0, 1, 1);
        x.entry(0, 0, 0, 7, 0);
        x.entry(0, 0, 1, 7, 0);
        x.list(0, 0, 0);
        x.go(0);
        x.tick(1);
        due("LEVEL and RATE bent to " + Integer.toHexString(y), x.at(0, 0), x.at(0, 1));
        return x.at(0, 0);
    }

    private static void bent() {
        sentence("==== 4", "A CHANNEL that is not wide may have a CURVE: BENT it is that, plus 0.5 (as a float), cut toward 0,"
            + " at least 0, at most 255");
        // The greatest float below 0.5, plus 0.5, is 1 as a float; the next lower one is not.
        int[] y = {0x3EFFFFFF, 0x3EFFFFFE, bits(0.5f), 0, SIGN, bits(-0.5f), 0xBF000001, bits(-1.5f), bits(-2), bits(1.4999999f),
            bits(254.49998f), bits(254.5f), bits(255), bits(255.5f), bits(256), 0x7F7FFFFF, 0xFF7FFFFF, 1, SIGN | 1};
        int[] due = {1, 0, 1, 0, 0, 0, 0, 0, 0, 1, 254, 255, 255, 255, 255, 255, 0, 0, 0};
        for (int i = 0; i < y.length; i++) {
            due("bent to " + Integer.toHexString(y[i]), bentTo(y[i]), due[i]);
        }
        CueBoard x = rich();
        due("bend(2, 2, 0)", x.bend(2, 2, 0), 1);
        due("bend(2, 1, 0) of a wide one", x.bend(2, 1, 0), SORT);
    }

    private static void bentBetween() {
        CueBoard x = one(DIMMER, 0, 1);
        x.point(0, 0, 0xFF7FFFFF);
        x.point(0, 2, 0x7F7FFFFF);
        x.point(0, 4, 0xFF7FFFFF);
        x.point(0, 254, bits(0));
        x.point(0, 255, bits(77));
        x.bend(0, 0, 0);
        int[] value = {1, 2, 3, 4, 254, 255, 0};
        int[] due = {255, 255, 0, 0, 0, 77, 0};
        for (int i = 0; i < value.length; i++) {
            send(x, i, 0, 0, value[i], 0);
            x.tick(1);
            due("bent at " + value[i], x.at(0, 0), due[i]);
        }
    }

    /** CURVE 0 is twice v up to 50, and a HOLE behind it; CURVE 1 is a HOLE all over. */
    private static CueBoard withHole(int kind) {
        CueBoard x = one(kind, 100, 5);
        x.point(0, 0, 0);
        x.point(0, 50, bits(100));
        x.point(0, 51, HOLE);
        x.point(1, 0, HOLE);
        x.bend(0, 0, 0);
        return x;
    }

    private static void held() {
        sentence("==== 4", "in a HOLE what it was when it was BENT last (0 before;");
        CueBoard x = withHole(DIMMER);
        int[] value = {51, 50, 51, 255, 1, 200, 0, 52};
        int[] due = {0, 100, 100, 100, 2, 2, 0, 0};
        for (int i = 0; i < value.length; i++) {
            send(x, i, 0, 0, value[i], 0);
            x.tick(1);
            due("at " + value[i], x.at(0, 0), due[i]);
        }
        // What it was when it was BENT, not what HEAT or a BLACKOUT left of it.
        x = withHole(DIMMER);
        send(x, 0, 0, 0, 50, 0);
        x.limit(0, 0);
        x.blackout(true);
        x.tick(1);
        send(x, 1, 0, 0, 90, 0);
        x.limit(0, 1000000);
        x.blackout(false);
        x.tick(1);
        due("held of what was cut", x.at(0, 0), 100);
        x = withHole(SCREEN);
        x.point(2, 0, bits(255));
        x.point(2, 9, HOLE);
        x.bend(0, 0, 2);
        x.tick(1);
        due("at most MOST", x.at(0, 0), 200);
        send(x, 0, 0, 0, 9, 0);
        x.tick(1);
        due("held at most MOST", x.at(0, 0), 200);
        due("another channel has nothing of it", x.at(0, 1), 0);
    }

    private static void heldMeanwhile() {
        sentence("==== 4", "a CHANNEL is BENT in TICKS in which it is PATCHED and has a CURVE; what it was stays meanwhile)");
        CueBoard x = withHole(DIMMER);
        send(x, 0, 0, 0, 20, 0);
        x.tick(1);
        x.unpatch(0);
        send(x, 1, 0, 0, 30, 0);
        x.tick(1);
        send(x, 2, 0, 0, 60, 0);
        x.patch(0, 0, 0);
        x.tick(1);
        due("not patched: not bent", x.at(0, 0), 40);
        x.bend(0, 0, NONE);
        send(x, 3, 0, 0, 30, 0);
        x.tick(1);
        due("without a curve", x.at(0, 0), 30);
        x.bend(0, 0, 1);
        x.tick(1);
        due("without a curve: not bent", x.at(0, 0), 40);
        x.bend(0, 0, 0);
        x.patch(0, 3, 0);
        x.tick(1);
        send(x, 4, 0, 0, 99, 0);
        x.patch(0, 0, 0);
        x.tick(1);
        due("bent on a line never told", x.at(0, 0), 60);
        send(x, 5, 0, 0, 35, 0);
        x.patch(0, 0, 63);
        x.tick(1);
        send(x, 6, 0, 0, 99, 0);
        x.patch(0, 0, 0);
        x.tick(1);
        due("bent beyond", x.at(0, 0), 70);
        send(x, 7, 0, 0, 45, 0);
        x.pull(0);
        x.tick(1);
        x.plug(0);
        x.bend(0, 0, 1);
        x.tick(1);
        due("bent on a pulled line", x.at(0, 0), 90);
    }

    private static void point() {
        sentence("Promise 17", "A POINT more of a CURVE, y by its 32 bits: how many");
        CueBoard x = new CueBoard();
        for (int i = 0; i < 8; i++) {
            due("point " + i, x.point(3, i == 7 ? 255 : i, 0x80000000 + i), i + 1);
            due("its bits", x.curve(3, i == 7 ? 255 : i), 0x80000000 + i);
        }
        sentence("Promise 17", "BAD: CURVE, x (not above the last one), y endless");
        for (int wrong : new int[] {-1, 4, LEAST, GREATEST}) {
            refused("point(" + wrong + ", 200, 0)", BAD, Edge::rich, y -> y.point(wrong, 200, 0));
        }
        for (int wrong : new int[] {-1, 256, LEAST, GREATEST}) {
            refused("point(1, " + wrong + ", 0)", BAD, Edge::rich, y -> y.point(1, wrong, 0));
        }
        for (int wrong : new int[] {0, 99, 100, 256, GREATEST}) {
            refused("point(0, " + wrong + ", 0)", BAD, Edge::rich, y -> y.point(0, wrong, 0));
        }
        refused("point(0, 101, endless)", BAD, Edge::rich, y -> y.point(0, 101, ENDLESS));
        refused("point(0, 101, endless below)", BAD, Edge::rich, y -> y.point(0, 101, ENDLESS | SIGN));
        due("point(0, 101, the greatest)", rich().point(0, 101, 0x7F7FFFFF), 4);
        due("point(0, 101, no number)", rich().point(0, 101, 0x7F800001), 4);
        sentence("Promise 17", "FULL");
        refused("point(0, 216, 0) as a ninth", FULL, Edge::full, y -> y.point(0, 216, 0));
        refused("point(0, 255, no number) as a ninth", FULL, Edge::full, y -> y.point(0, 255, HOLE));
        refused("point(0, 215, 0) as a ninth", BAD, Edge::full, y -> y.point(0, 215, 0));
        refused("point(0, 255, endless) as a ninth", BAD, Edge::full, y -> y.point(0, 255, ENDLESS));
    }

    private static void curve() {
        sentence("Promise 18", "The 32 bits of a CURVE at v (0 .. 255); 0x7FC00000 in a HOLE");
        CueBoard x = rich();
        due("curve(0, 0)", x.curve(0, 0), 0);
        due("curve(0, 25)", x.curve(0, 25), bits(50));
        due("curve(0, 255)", x.curve(0, 255), 0x7FC00000);
        due("curve(3, 255)", x.curve(3, 255), bits(255));
        x.point(2, 0, 0xFF800001);
        due("curve(2, 0) of other bits that are no number", x.curve(2, 0), 0x7FC00000);
        sentence("Promise 18", "BAD: 0");
        for (int wrong : new int[] {-1, 4, LEAST, GREATEST}) {
            refused("curve(" + wrong + ", 50)", 0, Edge::rich, y -> y.curve(wrong, 50));
        }
        for (int wrong : new int[] {-1, 256, LEAST, GREATEST}) {
            refused("curve(0, " + wrong + ")", 0, Edge::rich, y -> y.curve(0, wrong));
            refused("curve(3, " + wrong + ")", 0, Edge::rich, y -> y.curve(3, wrong));
        }
    }

    private static void bend() {
        sentence("Promise 19", "A CHANNEL has a CURVE (NONE: none): 1");
        CueBoard x = one(DIMMER, 0, 1);
        for (int curve = 0; curve < 4; curve++) {
            x.point(curve, 0, bits(10 + curve));
            due("bend(0, 0, " + curve + ")", x.bend(0, 0, curve), 1);
            x.tick(1);
            row(x, 0, 10 + curve);
        }
        due("bend(0, 0, NONE)", x.bend(0, 0, NONE), 1);
        x.tick(1);
        row(x, 0, 0);
        due("bend(0, 0, NONE) again", x.bend(0, 0, NONE), 1);
        for (int f = 0; f < 8; f++) {
            for (int c = 0; c < 3; c++) {
                bendOne(f, c);
            }
        }
        sentence("Promise 19", "BAD");
        for (int wrong : new int[] {-1, 7, 24, LEAST, GREATEST}) {
            refused("bend(" + wrong + ", 0, 0)", BAD, Edge::rich, y -> y.bend(wrong, 0, 0));
        }
        for (int wrong : new int[] {-1, 3, LEAST, GREATEST}) {
            refused("bend(0, " + wrong + ", 0)", BAD, Edge::rich, y -> y.bend(0, wrong, 0));
        }
        for (int wrong : new int[] {-2, 4, LEAST, GREATEST}) {
            refused("bend(0, 0, " + wrong + ")", BAD, Edge::rich, y -> y.bend(0, 0, wrong));
            refused("bend(2, 0, " + wrong + ") of a wide one", BAD, Edge::rich, y -> y.bend(2, 0, wrong));
        }
        sentence("Promise 19", "SORT: no such CHANNEL, or it is wide");
        int[][] wrong = {{0, 1}, {0, 2}, {1, 2}, {2, 0}, {2, 1}, {5, 0}, {5, 2}};
        for (int[] w : wrong) {
            refused("bend(" + w[0] + ", " + w[1] + ", 0)", SORT, Edge::rich, y -> y.bend(w[0], w[1], 0));
            refused("bend(" + w[0] + ", " + w[1] + ", NONE)", SORT, Edge::rich, y -> y.bend(w[0], w[1], NONE));
        }
        int[][] right = {{0, 0}, {1, 0}, {1, 1}, {2, 2}, {3, 0}, {3, 1}, {3, 2}};
        for (int[] r : right) {
            due("bend(" + r[0] + ", " + r[1] + ", 3)", rich().bend(r[0], r[1], 3), 1);
        }
    }

    /** Of eight SCREENS one CHANNEL alone has a CURVE. */
    private static void bendOne(int f, int c) {
        CueBoard x = new CueBoard();
        x.line(0, 24);
        for (int i = 0; i < 8; i++) {
            x.fixture(SCREEN, 0);
            x.patch(i, 0, 3 * i);
        }
        x.point(3, 0, bits(77));
        x.bend(f, c, 3);
        x.tick(1);
        for (int p = 0; p < 24; p++) {
            due("at(0, " + p + ") behind bend(" + f + ", " + c + ", 3)", x.at(0, p), p == 3 * f + c ? 77 : 0);
        }
    }
}
