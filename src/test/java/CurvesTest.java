/** Promises 17 to 19: point, curve, bend; and what is BENT in TICKS. */
public final class CurvesTest {
    private static final int SORT = -13, HOLE = 0x7FC00000;
    private static final int INFINITE = 0x7F800000, SIGN = 0x80000000;

    public static void main(String[] args) {
        points();
        pointsWrong();
        heights();
        holes();
        curveWrong();
        manyFloats();
        edgesOfFloats();
        bendAnswers();
        bent();
        bentInHoles();
        heldMeanwhile();
        Tally.end();
    }

    private static int bits(float y) {
        return Float.floatToRawIntBits(y);
    }

    private static void points() {
        CueBoard x = new CueBoard();
        for (int i = 0; i < 8; i++) {
            Tally.due("point", x.point(3, i * 30 + 5, bits(i)), i + 1);
        }
        Tally.due("a ninth", x.point(3, 250, bits(1)), CueBoard.FULL);
        Tally.due("a wrong ninth", x.point(3, 215, bits(1)), CueBoard.BAD);
        Tally.due("an endless ninth", x.point(3, 250, INFINITE), CueBoard.BAD);
        Tally.due("another curve", x.point(0, 0, bits(1)), 1);
        Tally.due("x 255", x.point(0, 255, bits(1)), 2);
        Tally.due("booked", x.told(2), 10);
    }

    private static void pointsWrong() {
        CueBoard x = new CueBoard();
        Tally.due("no such curve", x.point(-1, 0, 0), CueBoard.BAD);
        Tally.due("no such curve", x.point(4, 0, 0), CueBoard.BAD);
        Tally.due("x -1", x.point(0, -1, 0), CueBoard.BAD);
        Tally.due("x 256", x.point(0, 256, 0), CueBoard.BAD);
        Tally.due("endless", x.point(0, 0, INFINITE), CueBoard.BAD);
        Tally.due("endless below", x.point(0, 0, INFINITE | SIGN), CueBoard.BAD);
        Tally.due("no number", x.point(0, 9, INFINITE | 1), 1);
        Tally.due("the same x", x.point(0, 9, 0), CueBoard.BAD);
        Tally.due("x below", x.point(0, 8, 0), CueBoard.BAD);
        Tally.due("no number below", x.point(0, 10, 0xFFFFFFFF), 2);
        Tally.due("greatest", x.point(0, 11, bits(Float.MAX_VALUE)), 3);
        Tally.due("no finding", x.found(2), 0);
    }

    private static void heights() {
        CueBoard x = new CueBoard();
        for (int v = 0; v < 256; v++) {
            Tally.due("without points", x.curve(0, v), bits(v));
        }
        x.point(0, 100, bits(10));
        Tally.due("before the only one", x.curve(0, 0), bits(10));
        Tally.due("at it", x.curve(0, 100), bits(10));
        Tally.due("behind it", x.curve(0, 255), bits(10));
        x.point(0, 103, bits(-20));
        x.point(0, 200, bits(80.25f));
        Tally.due("before the first", x.curve(0, 99), bits(10));
        Tally.due("a third", x.curve(0, 101), bits(10f + (-20f - 10f) * (1f / 3f)));
        Tally.due("two thirds", x.curve(0, 102), bits(10f + (-20f - 10f) * (2f / 3f)));
        Tally.due("at the second", x.curve(0, 103), bits(-20));
        Tally.due("behind the last", x.curve(0, 201), bits(80.25f));
        for (int v = 104; v < 200; v++) {
            float due = -20f + (80.25f - -20f) * ((float) (v - 103) / (float) 97);
            Tally.due("curve(0, " + v + ")", x.curve(0, v), bits(due));
        }
        Tally.due("another one stays", x.curve(1, 100), bits(100));
    }

    private static void holes() {
        CueBoard x = new CueBoard();
        x.point(1, 10, 0xFFC12345);
        x.point(1, 20, bits(5));
        x.point(1, 30, bits(6));
        x.point(1, 40, 0x7F800001);
        Tally.due("before", x.curve(1, 0), HOLE);
        Tally.due("at the first", x.curve(1, 10), HOLE);
        Tally.due("between", x.curve(1, 19), HOLE);
        Tally.due("at a number", x.curve(1, 20), bits(5));
        Tally.due("between numbers", x.curve(1, 25), bits(5.5f));
        Tally.due("at the last number", x.curve(1, 30), bits(6));
        Tally.due("toward none", x.curve(1, 31), HOLE);
        Tally.due("at the last", x.curve(1, 40), HOLE);
        Tally.due("behind", x.curve(1, 255), HOLE);
        Tally.due("nothing found", x.found(1) + x.found(2) + x.found(3), 0);
    }

    private static void curveWrong() {
        CueBoard x = new CueBoard();
        x.point(0, 0, bits(7));
        Tally.due("curve(-1, 5)", x.curve(-1, 5), 0);
        Tally.due("curve(4, 5)", x.curve(4, 5), 0);
        Tally.due("curve(0, -1)", x.curve(0, -1), 0);
        Tally.due("curve(0, 256)", x.curve(0, 256), 0);
    }

    /** Bits by a rule of their own, over all sizes of floats. */
    private static void manyFloats() {
        int seed = 12345;
        for (int run = 0; run < 3000; run++) {
            CueBoard x = new CueBoard();
            int[] ys = new int[2];
            for (int i = 0; i < 2; i++) {
                seed = seed * 1664525 + 1013904223;
                ys[i] = seed ^ seed >>> 15;
                if ((ys[i] & INFINITE) == INFINITE) {
                    ys[i] &= ~0x40000000;
                }
                if (run % 3 == 0) {
                    ys[i] = ys[i] & ~INFINITE | (run % 255) << 23;
                }
            }
            compare(x, ys[0], ys[1], run % 200);
        }
    }

    private static void compare(CueBoard x, int first, int second, int from) {
        int wide = 7 + from % 49;
        x.point(2, from, first);
        x.point(2, from + wide, second);
        float a = Float.intBitsToFloat(first);
        float b = Float.intBitsToFloat(second);
        Tally.due("at the first", x.curve(2, from), first);
        Tally.due("at the second", x.curve(2, from + wide), second);
        for (int k = 1; k < wide; k += 3) {
            float due = a + (b - a) * ((float) k / (float) wide);
            Tally.due("between " + first + " and " + second, x.curve(2, from + k), bits(due));
        }
    }

    private static void edgesOfFloats() {
        int[] edges = {0, SIGN, 1, SIGN | 1, 2, 3, SIGN | 3, 0x7FFFFF, 0x800000, 0x800001, SIGN | 0x800000,
            0x7F7FFFFF, 0xFF7FFFFF, 0x7F000000, bits(1), bits(-1), bits(8388608f), bits(16777216f), bits(0.1f)};
        for (int first : edges) {
            for (int second : edges) {
                compare(new CueBoard(), first, second, 0);
                compare(new CueBoard(), first, second, 48);
            }
        }
        CueBoard x = new CueBoard();
        x.point(0, 0, 0xFF7FFFFF);
        x.point(0, 2, 0x7F7FFFFF);
        Tally.due("endless between", x.curve(0, 1), INFINITE);
    }

    private static void bendAnswers() {
        CueBoard x = new CueBoard();
        for (int kind = 0; kind < 4; kind++) {
            x.fixture(kind, 0);
        }
        x.group(0, 0);
        int[][] due = {{1, SORT, SORT}, {1, 1, SORT}, {SORT, SORT, 1}, {1, 1, 1}, {SORT, SORT, SORT}};
        int sorts = 0;
        for (int f = 0; f < 5; f++) {
            for (int c = 0; c < 3; c++) {
                Tally.due("bend(" + f + ", " + c + ")", x.bend(f, c, c), due[f][c]);
                Tally.due("bend to none", x.bend(f, c, CueBoard.NONE), due[f][c]);
                sorts += due[f][c] == SORT ? 2 : 0;
            }
        }
        Tally.due("found SORT", x.found(3), sorts);
        Tally.due("no such f", x.bend(5, 0, 0), CueBoard.BAD);
        Tally.due("no such f", x.bend(-1, 0, 0), CueBoard.BAD);
        Tally.due("channel -1", x.bend(0, -1, 0), CueBoard.BAD);
        Tally.due("channel 3", x.bend(0, 3, 0), CueBoard.BAD);
        Tally.due("curve 4", x.bend(0, 0, 4), CueBoard.BAD);
        Tally.due("curve -2", x.bend(0, 0, -2), CueBoard.BAD);
        Tally.due("curve 4 of no channel", x.bend(0, 2, 4), CueBoard.BAD);
        Tally.due("curve 3", x.bend(0, 0, 3), 1);
    }

    /** A DIMMER and a STROBE, whose CHANNELS get what set() tells. */
    private static CueBoard two() {
        CueBoard x = new CueBoard();
        x.line(0, 4);
        x.fixture(0, 0);
        x.fixture(1, 0);
        x.patch(0, 0, 0);
        x.patch(1, 0, 1);
        return x;
    }

    private static void set(CueBoard x, int cue, int value) {
        x.entry(cue, 0, 0, value, 0);
        x.entry(cue, 1, 1, value, 0);
        x.list(0, cue, 0);
        if (cue == 0) {
            x.load(0, 0);
        }
        x.go(0);
        x.tick(1);
    }

    private static void bent() {
        float[] ys = {10.49f, 10.5f, -0.5f, -3f, 254.4f, 254.5f, 300f, 3e38f};
        int[] due = {10, 11, 0, 0, 254, 255, 255, 255};
        for (int i = 0; i < ys.length; i++) {
            CueBoard x = two();
            x.point(0, 7, bits(ys[i]));
            x.bend(0, 0, 0);
            x.bend(1, 1, 0);
            set(x, 0, 7);
            Tally.due("level bent to " + ys[i], x.at(0, 0), due[i]);
            Tally.due("rate bent to " + ys[i], x.at(0, 2), due[i]);
        }
        CueBoard x = two();
        x.bend(0, 0, 2);
        set(x, 0, 77);
        Tally.due("by a curve without points", x.at(0, 0), 77);
        x.point(2, 0, bits(0));
        x.point(2, 154, bits(1));
        x.tick(1);
        Tally.due("halves up", x.at(0, 0), 1);
        x.bend(0, 0, CueBoard.NONE);
        x.tick(1);
        Tally.due("by none", x.at(0, 0), 77);
        bentBehindGrand();
    }

    /** GRAND comes ahead of a CURVE, MOST behind it. */
    private static void bentBehindGrand() {
        CueBoard x = new CueBoard();
        x.line(0, 5);
        x.fixture(2, 100);
        x.patch(0, 0, 0);
        x.point(0, 49, bits(0));
        x.point(0, 50, bits(240));
        x.bend(0, 2, 0);
        x.entry(0, 0, 2, 101, 0);
        x.list(0, 0, 0);
        x.load(0, 0);
        x.go(0);
        x.master(CueBoard.NONE, 50);
        x.tick(1);
        Tally.due("MOST of a MOVER of 100", x.at(0, 4), 200);
        x.master(CueBoard.NONE, 49);
        x.tick(1);
        Tally.due("49 of 100", x.at(0, 4), 0);
    }

    private static CueBoard withHole() {
        CueBoard x = two();
        x.point(0, 0, bits(0));
        x.point(0, 50, bits(100));
        x.point(0, 100, HOLE);
        x.bend(0, 0, 0);
        return x;
    }

    private static void bentInHoles() {
        CueBoard x = withHole();
        set(x, 0, 60);
        Tally.due("0 before", x.at(0, 0), 0);
        set(x, 1, 20);
        Tally.due("bent", x.at(0, 0), 40);
        set(x, 2, 60);
        Tally.due("held", x.at(0, 0), 40);
        set(x, 3, 200);
        Tally.due("held behind the last", x.at(0, 0), 40);
        set(x, 4, 50);
        Tally.due("bent at a point", x.at(0, 0), 100);
        set(x, 5, 51);
        Tally.due("held anew", x.at(0, 0), 100);
    }

    /** What it was stays while the CHANNEL is not PATCHED or has no CURVE, and for another CURVE. */
    private static void heldMeanwhile() {
        CueBoard x = withHole();
        set(x, 0, 20);
        Tally.due("bent", x.at(0, 0), 40);
        x.unpatch(0);
        set(x, 1, 30);
        x.patch(0, 0, 0);
        set(x, 2, 60);
        Tally.due("not bent when not patched", x.at(0, 0), 40);
        x.bend(0, 0, CueBoard.NONE);
        set(x, 3, 30);
        Tally.due("not bent", x.at(0, 0), 30);
        x.point(1, 0, HOLE);
        x.bend(0, 0, 1);
        x.tick(1);
        Tally.due("held for another curve", x.at(0, 0), 40);
        x.blackout(true);
        x.tick(1);
        x.blackout(false);
        x.tick(1);
        Tally.due("held through a blackout", x.at(0, 0), 40);
        x.patch(0, 3, 60);
        x.bend(0, 0, 0);
        set(x, 4, 35);
        x.patch(0, 0, 0);
        set(x, 5, 60);
        Tally.due("bent on a line never told, too", x.at(0, 0), 70);
    }
}
