/** The edges that the document names in ==== 3 and the promises 14 to 16. */
final class PatchEdges extends Edge {
    private PatchEdges() {
    }

    static void run() {
        places();
        bytesFollow();
        shared();
        patch();
        unpatch();
        firm();
    }

    private static void places() {
        sentence("==== 3", "A FIXTURE that SHOWS may be PATCHED to a LINE from a place on (0 .. 63)");
        for (int kind = 0; kind < 4; kind++) {
            CueBoard x = new CueBoard();
            x.fixture(kind, 0);
            for (int l = 0; l < 4; l++) {
                due("patch(0, " + l + ", 0) of a line never told", x.patch(0, l, 0), 1);
                due("patch(0, " + l + ", 63)", x.patch(0, l, 63), 1);
                due("patch(0, " + l + ", 64)", x.patch(0, l, 64), BAD);
                due("patch(0, " + l + ", -1)", x.patch(0, l, -1), BAD);
                due("its line", x.about(0, 2), l);
                due("its place", x.about(0, 3), 63);
            }
        }
        CueBoard x = one(DIMMER, 0, 64);
        x.patch(0, 0, 63);
        send(x, 0, 0, 0, 9, 0);
        x.tick(1);
        due("at(0, 63)", x.at(0, 63), 9);
        due("found(2)", x.found(2), 0);
        x.line(0, 0);
        due("patch(0, 0, 0) of no places", x.patch(0, 0, 0), 1);
        x.pull(0);
        due("patch(0, 0, 1) of a pulled one", x.patch(0, 0, 1), 1);
    }

    /** What the tick finds BEYOND where so many bytes of a FIXTURE lie on the LINE. */
    private static void bytesFollow() {
        sentence("==== 3", "its CHANNELS' bytes follow one another");
        int[][] beyond = {{1, 0}, {2, 1, 0}, {3, 3, 2, 2, 1, 0}, {3, 2, 1, 0}};
        for (int kind = 0; kind < 4; kind++) {
            for (int on = 0; on < beyond[kind].length; on++) {
                CueBoard x = one(kind, 0, 20);
                x.patch(0, 0, 20 - on);
                for (int c = 0; c < 3; c++) {
                    x.entry(0, 0, c, 257, 0);
                }
                x.list(0, 0, 0);
                x.go(0);
                x.tick(1);
                due(on + " bytes of kind " + kind, x.found(2), beyond[kind][on]);
                for (int k = 0; k < on; k++) {
                    due("byte " + k + " of " + on + " of kind " + kind, x.at(0, 20 - on + k), written(kind, on, k));
                }
                due("the byte before", x.at(0, 19 - on), 0);
            }
        }
    }

    /** Of a MOVER, PAN and TILT are 257, so both their bytes are 1; half of one is not written. */
    private static int written(int kind, int on, int k) {
        if (kind != MOVER || k == 4) {
            return 255;
        }
        return k / 2 * 2 + 1 < on ? 1 : 0;
    }

    private static CueBoard two() {
        CueBoard x = one(DIMMER, 0, 6);
        x.fixture(DIMMER, 0);
        x.patch(1, 0, 0);
        x.entry(0, 0, 0, 11, 0);
        x.entry(0, 1, 0, 22, 0);
        x.list(0, 0, 0);
        x.go(0);
        return x;
    }

    private static void shared() {
        sentence("==== 3", "Of FIXTURES that share a byte the one that was PATCHED later has it (PATCHED anew: it is the latest)");
        CueBoard x = two();
        x.tick(1);
        row(x, 0, 22);
        x.patch(0, 0, 0);
        x.tick(1);
        row(x, 0, 11);
        x.patch(0, 0, 0);
        x.tick(1);
        row(x, 0, 11);
        x.patch(1, 0, 0);
        x.tick(1);
        row(x, 0, 22);
        x.unpatch(1);
        x.tick(1);
        row(x, 0, 11);
        x.patch(1, 0, 0);
        x.patch(0, 1, 0);
        x.patch(0, 0, 0);
        x.tick(1);
        row(x, 0, 11);
        // A later one with the VALUE 0, or none, has the byte all the same.
        x.fixture(MOVER, 0);
        x.patch(2, 0, 0);
        x.tick(1);
        row(x, 0, 0, 0, 0, 0, 0, 0);
        x.patch(0, 0, 1);
        x.tick(1);
        row(x, 0, 0, 11, 0, 0, 0, 0);
        // One whose CHANNEL is not whole writes nothing, and has no byte.
        x.patch(2, 0, 5);
        x.patch(0, 0, 5);
        x.patch(2, 0, 5);
        x.tick(1);
        row(x, 0, 22, 0, 0, 0, 0, 11);
    }

    private static void patch() {
        sentence("Promise 14", "A FIXTURE is PATCHED: 1");
        CueBoard x = full();
        for (int f = 0; f < 21; f++) {
            due("patch(" + f + ", 3, 63)", x.patch(f, 3, 63), 1);
        }
        due("about(20, 3)", x.about(20, 3), 63);
        CueBoard y = new CueBoard();
        for (int f = 0; f < 24; f++) {
            y.fixture(DIMMER, 0);
        }
        for (int f = 0; f < 48; f++) {
            due("patch(" + f % 24 + ", 0, 0): all, then all anew", y.patch(f % 24, 0, 0), 1);
        }
        sentence("Promise 14", "BAD");
        for (int wrong : new int[] {-1, 7, 24, LEAST, GREATEST}) {
            refused("patch(" + wrong + ", 0, 0)", BAD, Edge::rich, z -> z.patch(wrong, 0, 0));
        }
        for (int wrong : new int[] {-1, 4, LEAST, GREATEST}) {
            refused("patch(0, " + wrong + ", 0)", BAD, Edge::rich, z -> z.patch(0, wrong, 0));
        }
        for (int wrong : new int[] {-1, 64, LEAST, GREATEST}) {
            refused("patch(0, 0, " + wrong + ")", BAD, Edge::rich, z -> z.patch(0, 0, wrong));
        }
        refused("patch(0, 0, 0) on a new board", BAD, CueBoard::new, z -> z.patch(0, 0, 0));
        sentence("Promise 14", "SORT: it does not SHOW");
        refused("patch(4, 0, 0)", SORT, Edge::rich, z -> z.patch(4, 0, 0));
        refused("patch(5, 3, 63)", SORT, Edge::rich, z -> z.patch(5, 3, 63));
    }

    private static void unpatch() {
        sentence("Promise 15", "A FIXTURE is not PATCHED any more: 1");
        CueBoard x = two();
        x.tick(1);
        due("unpatch(1)", x.unpatch(1), 1);
        due("unpatch(0)", x.unpatch(0), 1);
        row(x, 0, 22);
        x.tick(1);
        row(x, 0, 0);
        due("heat(0)", x.heat(0), 0);
        due("value(0, 1, 0) stays", x.value(0, 1, 0), 22);
        sentence("Promise 15", "BAD");
        for (int wrong : new int[] {-1, 7, 24, LEAST, GREATEST}) {
            refused("unpatch(" + wrong + ")", BAD, Edge::rich, z -> z.unpatch(wrong));
        }
        sentence("Promise 15", "NO: it is not");
        refused("unpatch(5) of a GROUP", NO, Edge::rich, z -> z.unpatch(5));
        refused("unpatch(20) of one that never was", NO, Edge::full, z -> z.unpatch(20));
        due("unpatch(0) once more", x.unpatch(0), NO);
        x.patch(0, 3, 63);
        due("unpatch(0) of one on a line never told", x.unpatch(0), 1);
    }

    private static void firm() {
        sentence("Promise 16", "A FIXTURE is FIRM, or not: 1");
        CueBoard x = full();
        for (int f = 0; f < 24; f++) {
            due("firm(" + f + ", true)", x.firm(f, true), 1);
            due("firm(" + f + ", true) again", x.firm(f, true), 1);
            due("about(" + f + ", 4)", x.about(f, 4), 1);
            due("firm(" + f + ", false)", x.firm(f, false), 1);
            due("firm(" + f + ", false) again", x.firm(f, false), 1);
            due("about(" + f + ", 4)", x.about(f, 4), 0);
        }
        sentence("Promise 16", "BAD");
        for (int wrong : new int[] {-1, 7, 24, LEAST, GREATEST}) {
            refused("firm(" + wrong + ", true)", BAD, Edge::rich, z -> z.firm(wrong, true));
            refused("firm(" + wrong + ", false)", BAD, Edge::rich, z -> z.firm(wrong, false));
        }
    }
}
