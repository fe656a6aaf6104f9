/** The edges that the document names in ==== 2 and the promises 7 to 13. */
final class FixtureEdges extends Edge {
    private FixtureEdges() {
    }

    static void run() {
        fixtures();
        channels();
        values();
        groups();
        places();
        members();
        askSpan();
        askHeat();
        askReach();
        askMost();
        askTrace();
        fixture();
        group();
        member();
        memberOrder();
        memberAt();
        asks();
        trace();
        about();
    }

    /** 0 DIMMER, 1 STROBE, 2 MOVER, 3 SCREEN, all of n; 4 GROUP for all. */
    private static CueBoard kinds(int n) {
        CueBoard x = new CueBoard();
        for (int kind = 0; kind < 4; kind++) {
            x.fixture(kind, n);
        }
        x.group(0, 6);
        return x;
    }

    private static void fixtures() {
        sentence("==== 2", "FIXTURES 0 .. 23, as they come");
        CueBoard x = new CueBoard();
        for (int f = 0; f < 24; f++) {
            due("number " + f, f % 8 == 7 ? x.group(0, 0) : x.fixture(f % 4, f), f);
            due("told(0)", x.told(0), f + 1);
            due("about(" + (f + 1) + ", 0)", x.about(f + 1, 0), BAD);
        }
        due("a 25th", x.fixture(DIMMER, 0), FULL);
        due("about(23, 0)", x.about(23, 0), GROUP);
        due("about(24, 0)", x.about(24, 0), BAD);
        sentence("==== 2", "of a KIND, with a number n (0 .. 100)");
        x = new CueBoard();
        for (int kind = 0; kind < 4; kind++) {
            due("fixture(" + kind + ", 0)", x.fixture(kind, 0), 2 * kind);
            due("fixture(" + kind + ", 100)", x.fixture(kind, 100), 2 * kind + 1);
            due("fixture(" + kind + ", 101)", x.fixture(kind, 101), BAD);
            due("fixture(" + kind + ", -1)", x.fixture(kind, -1), BAD);
            due("n of it", x.about(2 * kind + 1, 1), 100);
        }
        sentence("==== 2", "0 DIMMER, 1 STROBE (a DIMMER, too), 2 MOVER, 3 SCREEN, 4 GROUP");
        x = kinds(0);
        for (int f = 0; f < 5; f++) {
            due("about(" + f + ", 0)", x.about(f, 0), f);
        }
        x.group(1, 1);
        due("a STROBE among DIMMERS", x.member(5, 0, 1), 1);
        due("a MOVER among DIMMERS", x.member(5, 0, 2), STORE);
    }

    private static void channels() {
        sentence("==== 2", "CHANNELS (0 .. 2; other numbers are BAD)");
        for (int c : new int[] {-1, 3, LEAST, GREATEST}) {
            refused("bend(3, " + c + ", 0)", BAD, Edge::rich, x -> x.bend(3, c, 0));
            refused("entry(0, 3, " + c + ", 0, 0)", BAD, Edge::rich, x -> x.entry(0, 3, c, 0, 0));
            refused("merge(3, " + c + ", true)", BAD, Edge::rich, x -> x.merge(3, c, true));
            refused("value(0, 3, " + c + ")", BAD, Edge::rich, x -> x.value(0, 3, c));
        }
        CueBoard all = kinds(0);
        for (int c = 0; c < 3; c++) {
            due("bend(3, " + c + ", 0)", all.bend(3, c, 0), 1);
            due("entry(0, 3, " + c + ", 0, 0)", all.entry(0, 3, c, 0, 0), c + 1);
            due("merge(3, " + c + ", true)", all.merge(3, c, true), 1);
            due("value(0, 3, " + c + ")", all.value(0, 3, c), NONE);
        }
        sentence("==== 2", "DIMMER 0 LEVEL; STROBE 0 LEVEL, 1 RATE; MOVER 0 PAN, 1 TILT");
        int[] count = {1, 2, 3, 3, 0};
        for (int f = 0; f < 4; f++) {
            last(f, count[f]);
        }
        sentence("==== 2", "2 LEVEL; SCREEN 0 RED, 1 GREEN, 2 BLUE; GROUP none");
        for (int f = 2; f < 5; f++) {
            last(f, count[f]);
        }
        sentence("==== 2", "(both wide: two bytes, the high one first)");
        CueBoard x = one(MOVER, 0, 5);
        send(x, 0, 0, 0, 255, 0);
        send(x, 1, 0, 1, 256, 0);
        x.tick(1);
        row(x, 0, 0, 255, 1, 0, 0);
    }

    /** The last CHANNEL of a FIXTURE, and the first that it does not have. */
    private static void last(int f, int count) {
        for (int c = 0; c < 3; c++) {
            CueBoard x = kinds(0);
            due("value(0, " + f + ", " + c + ")", x.value(0, f, c), c < count ? NONE : SORT);
            due("merge(" + f + ", " + c + ", true)", x.merge(f, c, true), c < count ? 1 : SORT);
        }
    }

    private static void values() {
        sentence("==== 2", "LEVELS and colours are DIMMING");
        CueBoard x = kinds(0);
        x.line(0, 11);
        int[] places = {0, 1, 3, 8};
        for (int f = 0; f < 4; f++) {
            x.patch(f, 0, places[f]);
            x.member(4, f, f);
        }
        for (int c = 0; c < 3; c++) {
            x.entry(0, 4, c, 257, 0);
        }
        x.list(0, 0, 0);
        x.load(0, 0);
        x.go(0);
        x.tick(1);
        row(x, 0, 255, 255, 255, 1, 1, 1, 1, 255, 255, 255, 255);
        x.blackout(true);
        x.tick(1);
        row(x, 0, 0, 0, 255, 1, 1, 1, 1, 0, 0, 0, 0);
        sentence("==== 2", "Values are 0 .. 255, of wide ones 0 .. 65535");
        due("value of a DIMMER", x.value(0, 0, 0), 255);
        x.load(0, 1);
        int[] given = {0, 255, 256, 65535};
        for (int i = 0; i < given.length; i++) {
            x.entry(1 + i, 4, 0, given[i], 0);
            x.list(1, 1 + i, 0);
            x.go(0);
            due("LEVEL of " + given[i], x.value(0, 0, 0), Math.min(255, given[i]));
            due("PAN of " + given[i], x.value(0, 2, 0), given[i]);
            due("RED of " + given[i], x.value(0, 3, 0), Math.min(255, given[i]));
        }
        sentence("==== 2", "All but GROUPS SHOW; MOVERS and SCREENS MOVE");
        CueBoard y = kinds(1);
        for (int f = 0; f < 5; f++) {
            due("HEAT of " + f, y.asks(f, HEAT) == SORT ? 1 : 0, f == 4 ? 1 : 0);
            due("REACH of " + f, y.asks(f, REACH) == SORT ? 1 : 0, f == 2 || f == 3 ? 0 : 1);
            due("patch of " + f, y.patch(f, 0, 0), f == 4 ? SORT : 1);
        }
    }

    private static void groups() {
        sentence("==== 2", "There are three GROUPS at most");
        CueBoard x = new CueBoard();
        for (int g = 0; g < 3; g++) {
            due("group " + g, x.group(g, g), g);
        }
        due("a fourth", x.group(0, 0), FULL);
        due("a fixture behind them", x.fixture(DIMMER, 0), 3);
        due("still a fourth", x.group(0, 0), FULL);
        sentence("==== 2", "A GROUP is made for a FORM (0 all FIXTURES, 1 DIMMERS, 2 those that MOVE), with 0 to 6 places");
        int[][] fits = {{1, 1, 1, 1}, {1, 1, STORE, STORE}, {STORE, STORE, 1, 1}};
        for (int form = 0; form < 3; form++) {
            CueBoard y = kinds(0);
            due("group(" + form + ", 6)", y.group(form, 6), 5);
            for (int f = 0; f < 4; f++) {
                due("member of " + f + " for FORM " + form, y.member(5, f, f), fits[form][f]);
            }
            due("its last place", y.member(5, 5, form == 2 ? 2 : 0), 1);
            due("behind its last place", y.member(5, 6, form == 2 ? 2 : 0), BEYOND);
            due("group(" + form + ", 0)", y.group(form, 0), 6);
            due("a place of none", y.member(6, 0, NONE), BEYOND);
        }
        due("group(-1, 1)", kinds(0).group(-1, 1), BAD);
        due("group(3, 1)", kinds(0).group(3, 1), BAD);
        due("group(0, 7)", kinds(0).group(0, 7), BAD);
    }

    private static void places() {
        sentence("==== 2", "each a FIXTURE of that FORM that came before the GROUP (of FORM 0 another GROUP, too), or none");
        CueBoard x = new CueBoard();
        x.fixture(DIMMER, 0);
        x.group(0, 1);
        x.group(0, 2);
        x.fixture(DIMMER, 0);
        due("the one right before it", x.member(2, 0, 1), 1);
        due("itself", x.member(2, 1, 2), BAD);
        due("the one right behind it", x.member(2, 1, 3), BAD);
        due("a GROUP behind it", x.member(1, 0, 2), BAD);
        due("the first of all", x.member(2, 1, 0), 1);
        due("none", x.member(2, 1, NONE), 1);
        for (int form = 1; form < 3; form++) {
            CueBoard y = new CueBoard();
            y.group(form, 0);
            y.group(form, 1);
            due("a GROUP for FORM " + form, y.member(1, 0, 0), STORE);
        }
    }

    private static void members() {
        sentence("==== 2", "MEMBERS of a GROUP: of its places in order, those in a GROUP at that place in theirs");
        CueBoard x = new CueBoard();
        for (int f = 0; f < 3; f++) {
            x.fixture(DIMMER, 0);
        }
        x.group(0, 2);
        x.group(0, 3);
        x.group(0, 6);
        due("no places taken", x.memberAt(5, 0), NONE);
        x.member(5, 5, 4);
        due("a GROUP without MEMBERS", x.memberAt(5, 0), NONE);
        x.member(3, 1, 2);
        x.member(4, 0, 1);
        x.member(4, 2, 3);
        x.member(5, 1, 0);
        x.member(5, 3, 3);
        int[] due = {0, 2, 1, 2, NONE};
        for (int k = 0; k < due.length; k++) {
            due("memberAt(5, " + k + ")", x.memberAt(5, k), due[k]);
        }
        CueBoard y = most();
        due("memberAt(3, 215) of six of six of six", y.memberAt(3, 215), 0);
        due("memberAt(3, 216)", y.memberAt(3, 216), NONE);
    }

    /** Six of six of six STROBES: the most MEMBERS, the greatest SPAN by places, the longest TRACE. */
    private static CueBoard most() {
        CueBoard x = new CueBoard();
        x.fixture(STROBE, 0);
        for (int g = 1; g <= 3; g++) {
            x.group(0, 6);
            for (int i = 0; i < 6; i++) {
                x.member(g, i, g - 1);
            }
        }
        return x;
    }

    private static void ask(CueBoard x, int f, int ask, int want, int... bodies) {
        due("asks(" + f + ", " + ask + ")", x.asks(f, ask), want);
        trace(x, bodies);
    }

    private static void askSpan() {
        sentence("==== 2", "SPAN, of all: 1 DIMMER: 1; 2 STROBE: what 1 gives, and 1; 3 MOVER: 5; 4 SCREEN: 3;");
        for (int n = 0; n <= 100; n += 100) {
            CueBoard x = kinds(n);
            ask(x, 0, SPAN, 1, 1);
            ask(x, 1, SPAN, 2, 2, 1);
            ask(x, 2, SPAN, 5, 3);
            ask(x, 3, SPAN, 3, 4);
        }
        sentence("==== 2", "5 GROUP: the SPANS of what is at its places together, in order");
        CueBoard x = kinds(0);
        ask(x, 4, SPAN, 0, 5);
        x.member(4, 5, 0);
        ask(x, 4, SPAN, 1, 5, 1);
        x.member(4, 0, 2);
        x.member(4, 2, 1);
        ask(x, 4, SPAN, 8, 5, 3, 2, 1, 1);
        x.group(0, 0);
        x.group(0, 3);
        x.member(6, 0, 5);
        x.member(6, 1, 4);
        x.member(6, 2, 3);
        ask(x, 6, SPAN, 11, 5, 5, 5, 3, 2, 1, 1, 4);
        CueBoard y = most();
        due("SPAN of six of six of six STROBES", y.asks(3, SPAN), 432);
        due("trace(0)", y.trace(0), 5);
        due("trace(474)", y.trace(474), 1);
        due("trace(475)", y.trace(475), NONE);
    }

    private static void askHeat() {
        sentence("==== 2", "HEAT, of what SHOWS: 10 lent to all: 20 times its SPAN; 11 STROBE: half of what 10 gives; 12 MOVER: what 10 gives, and n");
        for (int n = 0; n <= 100; n += 50) {
            CueBoard x = kinds(n);
            ask(x, 0, HEAT, 20, 10, 1);
            ask(x, 1, HEAT, 20, 11, 10, 2, 1);
            ask(x, 2, HEAT, 100 + n, 12, 10, 3);
            ask(x, 3, HEAT, 60, 10, 4);
            ask(x, 4, HEAT, SORT);
        }
    }

    private static void askReach() {
        sentence("==== 2", "REACH, of what MOVES: 20 lent to all: 360; 21 SCREEN: what 20 gives, by n (NOUGHT)");
        int[] n = {0, 1, 7, 100};
        int[] reach = {NOUGHT, 360, 51, 3};
        for (int i = 0; i < n.length; i++) {
            CueBoard x = kinds(n[i]);
            ask(x, 0, REACH, SORT);
            ask(x, 1, REACH, SORT);
            ask(x, 2, REACH, 360, 20);
            ask(x, 3, REACH, reach[i], 21, 20);
            ask(x, 4, REACH, SORT);
        }
    }

    private static void askMost() {
        sentence("==== 2", "MOST, of what SHOWS or MOVES: 30 lent to what SHOWS: 255; 31 lent to what MOVES: 300 less n;"
            + " 32 MOVER, 33 SCREEN: the lesser one of what 30 and 31 give (in this order)");
        int[] n = {0, 44, 45, 46, 100};
        int[] most = {255, 255, 255, 254, 200};
        for (int i = 0; i < n.length; i++) {
            CueBoard x = kinds(n[i]);
            ask(x, 0, MOST, 255, 30);
            ask(x, 1, MOST, 255, 30);
            ask(x, 2, MOST, most[i], 32, 30, 31);
            ask(x, 3, MOST, most[i], 33, 30, 31);
            ask(x, 4, MOST, SORT);
        }
    }

    private static void askTrace() {
        sentence("==== 2", "ASKS, by BODIES, each of which leaves its number in THE TRACE as it begins (empty ahead of each ask)");
        CueBoard x = kinds(0);
        trace(x);
        ask(x, 1, HEAT, 20, 11, 10, 2, 1);
        ask(x, 0, SPAN, 1, 1);
        ask(x, 1, HEAT, 20, 11, 10, 2, 1);
        ask(x, 4, MOST, SORT);
        sentence("==== 2", "(Of an ask only the BODY told for the KIND begins, and what that asks. TICKS leave THE TRACE as it is.)");
        ask(x, 2, HEAT, 100, 12, 10, 3);
        x.line(0, 5);
        x.patch(2, 0, 0);
        x.patch(3, 0, 0);
        x.tick(5);
        trace(x, 12, 10, 3);
        x.asks(4, HEAT);
        x.tick(1);
        trace(x);
    }

    private static void fixture() {
        sentence("Promise 7", "A FIXTURE of KIND 0 to 3: its number");
        CueBoard x = new CueBoard();
        due("fixture(0, 0)", x.fixture(0, 0), 0);
        due("fixture(3, 100)", x.fixture(3, 100), 1);
        sentence("Promise 7", "BAD");
        for (int wrong : new int[] {-1, 4, 5, LEAST, GREATEST}) {
            refused("fixture(" + wrong + ", 0)", BAD, Edge::rich, y -> y.fixture(wrong, 0));
        }
        for (int wrong : new int[] {-1, 101, LEAST, GREATEST}) {
            refused("fixture(0, " + wrong + ")", BAD, Edge::rich, y -> y.fixture(0, wrong));
            refused("fixture(2, " + wrong + ")", BAD, Edge::rich, y -> y.fixture(2, wrong));
        }
        sentence("Promise 7", "FULL");
        for (int kind = 0; kind < 4; kind++) {
            int each = kind;
            refused("fixture(" + each + ", 0) as a 25th", FULL, Edge::full, y -> y.fixture(each, 0));
        }
    }

    private static CueBoard threeGroups() {
        CueBoard x = rich();
        x.group(2, 1);
        return x;
    }

    private static CueBoard noGroups() {
        CueBoard x = new CueBoard();
        for (int f = 0; f < 24; f++) {
            x.fixture(f % 4, f);
        }
        return x;
    }

    private static void group() {
        sentence("Promise 8", "A GROUP for a FORM with k places: its number");
        CueBoard x = new CueBoard();
        due("group(0, 0)", x.group(0, 0), 0);
        due("group(2, 6)", x.group(2, 6), 1);
        due("about(1, 1)", x.about(1, 1), 2);
        due("its places are empty", x.memberAt(1, 0), NONE);
        sentence("Promise 8", "BAD: FORM, k above 6");
        for (int wrong : new int[] {-1, 3, LEAST, GREATEST}) {
            refused("group(" + wrong + ", 1)", BAD, Edge::rich, y -> y.group(wrong, 1));
        }
        for (int wrong : new int[] {7, GREATEST}) {
            refused("group(0, " + wrong + ")", BAD, Edge::rich, y -> y.group(0, wrong));
        }
        sentence("Promise 8", "FULL: also a fourth one");
        refused("group(0, 1) as a fourth", FULL, FixtureEdges::threeGroups, y -> y.group(0, 1));
        refused("group(0, 0) as a fourth", FULL, FixtureEdges::threeGroups, y -> y.group(0, 0));
        refused("group(0, -1) as a fourth", FULL, FixtureEdges::threeGroups, y -> y.group(0, -1));
        refused("group(0, 1) as a 25th, the first group", FULL, FixtureEdges::noGroups, y -> y.group(0, 1));
        refused("group(0, -1) as a 25th, the first group", FULL, FixtureEdges::noGroups, y -> y.group(0, -1));
        sentence("Promise 8", "FEWER");
        for (int k : new int[] {-1, LEAST}) {
            refused("group(0, " + k + ")", FEWER, Edge::rich, y -> y.group(0, k));
            refused("group(2, " + k + ")", FEWER, Edge::rich, y -> y.group(2, k));
        }
    }

    private static void member() {
        sentence("Promise 9", "Place i of a GROUP gets a FIXTURE (NONE: none): 1");
        CueBoard x = rich();
        due("member(4, 0, 1)", x.member(4, 0, 1), 1);
        due("memberAt(4, 0)", x.memberAt(4, 0), 1);
        due("member(4, 2, NONE)", x.member(4, 2, NONE), 1);
        due("memberAt(4, 1)", x.memberAt(4, 1), NONE);
        due("member(4, 2, NONE) again", x.member(4, 2, NONE), 1);
        due("member(4, 2, 1): twice the same", x.member(4, 2, 1), 1);
        due("memberAt(4, 1)", x.memberAt(4, 1), 1);
        sentence("Promise 9", "BAD: no such FIXTURES, f did not come before g");
        for (int wrong : new int[] {-1, 7, 24, LEAST, GREATEST}) {
            refused("member(" + wrong + ", 0, 0)", BAD, Edge::rich, y -> y.member(wrong, 0, 0));
            refused("member(" + wrong + ", 0, NONE)", BAD, Edge::rich, y -> y.member(wrong, 0, NONE));
        }
        for (int wrong : new int[] {-2, 7, 24, LEAST, GREATEST}) {
            refused("member(5, 0, " + wrong + ")", BAD, Edge::rich, y -> y.member(5, 0, wrong));
        }
        refused("member(5, 0, 5): itself", BAD, Edge::rich, y -> y.member(5, 0, 5));
        refused("member(5, 0, 6): behind it", BAD, Edge::rich, y -> y.member(5, 0, 6));
        refused("member(4, 0, 5): a GROUP behind it", BAD, Edge::rich, y -> y.member(4, 0, 5));
        refused("member(0, 0, 0) of new ones", BAD, CueBoard::new, y -> y.member(0, 0, 0));
    }

    private static void memberOrder() {
        sentence("Promise 9", "SORT: g is no GROUP");
        refused("member(6, 0, 0)", SORT, Edge::rich, y -> y.member(6, 0, 0));
        refused("member(0, 0, NONE)", SORT, Edge::rich, y -> y.member(0, 0, NONE));
        sentence("Promise 9", "BEYOND");
        for (int wrong : new int[] {-1, 3, 6, LEAST, GREATEST}) {
            refused("member(4, " + wrong + ", 0)", BEYOND, Edge::rich, y -> y.member(4, wrong, 0));
            refused("member(4, " + wrong + ", NONE)", BEYOND, Edge::rich, y -> y.member(4, wrong, NONE));
        }
        sentence("Promise 9", "STORE");
        refused("member(4, 1, 2)", STORE, Edge::rich, y -> y.member(4, 1, 2));
        refused("member(4, 0, 3) where one is", STORE, Edge::rich, y -> y.member(4, 0, 3));
        sentence("Promise 9", "(in this order)");
        refused("member(0, 9, 6): BAD and SORT", BAD, Edge::rich, y -> y.member(0, 9, 6));
        refused("member(5, 9, 6): BAD and BEYOND", BAD, Edge::rich, y -> y.member(5, 9, 6));
        refused("member(6, 9, 2): SORT and BEYOND", SORT, Edge::rich, y -> y.member(6, 9, 2));
        refused("member(4, 3, 2): BEYOND and STORE", BEYOND, Edge::rich, y -> y.member(4, 3, 2));
        refused("member(4, -1, 3): BEYOND and STORE", BEYOND, Edge::rich, y -> y.member(4, -1, 3));
    }

    private static void memberAt() {
        sentence("Promise 10", "The k-th MEMBER of a GROUP");
        CueBoard x = rich();
        int[] due = {2, 0, 1, 3};
        for (int k = 0; k < due.length; k++) {
            due("memberAt(5, " + k + ")", x.memberAt(5, k), due[k]);
        }
        sentence("Promise 10", "NONE");
        for (int k : new int[] {4, 6, 216, GREATEST, -1, LEAST}) {
            refused("memberAt(5, " + k + ")", NONE, Edge::rich, y -> y.memberAt(5, k));
        }
        CueBoard y = new CueBoard();
        y.group(0, 0);
        y.group(0, 6);
        due("memberAt(0, 0) of no places", y.memberAt(0, 0), NONE);
        due("memberAt(1, 0) of none at its places", y.memberAt(1, 0), NONE);
        sentence("Promise 10", "BAD");
        for (int wrong : new int[] {-1, 7, 24, LEAST, GREATEST}) {
            refused("memberAt(" + wrong + ", 0)", BAD, Edge::rich, z -> z.memberAt(wrong, 0));
        }
        sentence("Promise 10", "SORT");
        refused("memberAt(6, 0)", SORT, Edge::rich, z -> z.memberAt(6, 0));
        refused("memberAt(0, 99)", SORT, Edge::rich, z -> z.memberAt(0, 99));
        refused("memberAt(0, -1)", SORT, Edge::rich, z -> z.memberAt(0, -1));
    }

    private static CueBoard nought() {
        CueBoard x = rich();
        x.asks(3, REACH);
        return x;
    }

    private static void asks() {
        sentence("Promise 11", "ASK 0 SPAN, 1 HEAT, 2 REACH, 3 MOST of a FIXTURE");
        int[] due = {5, 170, 360, 230};
        for (int ask = 0; ask < 4; ask++) {
            due("asks(2, " + ask + ")", rich().asks(2, ask), due[ask]);
        }
        sentence("Promise 11", "BAD");
        for (int wrong : new int[] {-1, 4, LEAST, GREATEST}) {
            refused("asks(2, " + wrong + ")", BAD, Edge::asked, x -> x.asks(2, wrong));
            refused("asks(5, " + wrong + ")", BAD, Edge::asked, x -> x.asks(5, wrong));
        }
        for (int wrong : new int[] {-1, 7, 24, LEAST, GREATEST}) {
            refused("asks(" + wrong + ", 0)", BAD, Edge::asked, x -> x.asks(wrong, 0));
        }
        sentence("Promise 11", "SORT: it does not SHOW, MOVE");
        for (int ask = 1; ask < 4; ask++) {
            int each = ask;
            refused("asks(5, " + each + ")", SORT, Edge::rich, x -> x.asks(5, each));
        }
        refused("asks(0, 2)", SORT, Edge::rich, x -> x.asks(0, REACH));
        refused("asks(1, 2)", SORT, Edge::rich, x -> x.asks(1, REACH));
        sentence("Promise 11", "NOUGHT");
        // THE TRACE of such an ask is there before, too.
        refused("asks(3, 2) once more", NOUGHT, FixtureEdges::nought, x -> x.asks(3, REACH));
    }

    private static void trace() {
        sentence("Promise 12", "Number i of THE TRACE of the latest ask that was not BAD");
        CueBoard x = asked();
        trace(x, 11, 10, 2, 1);
        x.asks(0, 4);
        x.asks(0, -1);
        x.asks(7, 0);
        trace(x, 11, 10, 2, 1);
        x.asks(0, REACH);
        trace(x);
        x.asks(3, REACH);
        trace(x, 21, 20);
        x.replay();
        trace(x, 21, 20);
        x.back(0);
        trace(x);
        sentence("Promise 12", "NONE");
        due("trace(0) of a new board", new CueBoard().trace(0), NONE);
        for (int i : new int[] {4, 475, GREATEST, -1, LEAST}) {
            refused("trace(" + i + ")", NONE, Edge::asked, y -> y.trace(i));
        }
    }

    private static void about() {
        sentence("Promise 13", "Of a FIXTURE: 0 KIND, 1 n (of a GROUP its FORM), 2 the LINE to which it is PATCHED, 3 the place (NONE),"
            + " 4 whether it is FIRM (1, 0)");
        CueBoard x = new CueBoard();
        x.fixture(SCREEN, 100);
        x.group(2, 6);
        int[][] due = {{SCREEN, 100, NONE, NONE, 0}, {GROUP, 2, NONE, NONE, 0}};
        for (int f = 0; f < 2; f++) {
            for (int what = 0; what < 5; what++) {
                due("about(" + f + ", " + what + ")", x.about(f, what), due[f][what]);
            }
        }
        x.patch(0, 3, 63);
        x.firm(0, true);
        due("about(0, 2)", x.about(0, 2), 3);
        due("about(0, 3)", x.about(0, 3), 63);
        due("about(0, 4)", x.about(0, 4), 1);
        x.patch(0, 0, 0);
        due("about(0, 2) patched anew", x.about(0, 2), 0);
        due("about(0, 3) patched anew", x.about(0, 3), 0);
        x.unpatch(0);
        due("about(0, 2) not patched", x.about(0, 2), NONE);
        due("about(0, 3) not patched", x.about(0, 3), NONE);
        due("about(0, 4) not patched", x.about(0, 4), 1);
        sentence("Promise 13", "BAD");
        for (int wrong : new int[] {-1, 5, LEAST, GREATEST}) {
            refused("about(0, " + wrong + ")", BAD, Edge::rich, y -> y.about(0, wrong));
        }
        for (int wrong : new int[] {-1, 7, 24, LEAST, GREATEST}) {
            refused("about(" + wrong + ", 0)", BAD, Edge::rich, y -> y.about(wrong, 0));
        }
        due("about(0, 0) of a new board", new CueBoard().about(0, 0), BAD);
    }
}
