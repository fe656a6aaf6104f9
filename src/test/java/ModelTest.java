import java.util.ArrayList;
import java.util.Arrays;
import java.util.Collections;
import java.util.List;
import java.util.Random;

/** Runs of calls made by chance (with seeds that stay): the program answers what the model does. */
public final class ModelTest {
    private static final int RUNS = 2000, CALLS = 512;
    private static final int[] FLOATS = {0, 0x80000000, 0x7FC00000, 0x7F800001, 0xFF800000, 0x7F800000, 1, 0x7F7FFFFF,
        0xFF7FFFFF, Float.floatToRawIntBits(0.5f), Float.floatToRawIntBits(254.5f), Float.floatToRawIntBits(-7.25f)};
    /** How often each call comes, by its place in the face: while the board is built, and later. */
    private static final int[] BUILDING = {3, 1, 1, 1, 1, 8, 3, 6, 1, 1, 1, 1, 8, 1, 1, 6, 1, 4, 12, 6,
        3, 3, 1, 1, 1, 2, 1, 1, 2, 1, 1, 1, 2, 1, 1, 1, 1, 1};
    private static final int[] RUNNING = {1, 1, 1, 6, 3, 1, 1, 1, 2, 4, 6, 2, 3, 1, 2, 1, 3, 2, 2, 2,
        2, 9, 1, 1, 4, 2, 8, 8, 3, 5, 5, 2, 16, 5, 6, 1, 1, 2};

    private final Random random;
    private final CueBoard board = new CueBoard();
    private final Model model = new Model();
    private int fixtures = 0;
    /** What later calls answer is free. */
    private int callsLeft = CALLS;

    private ModelTest(int seed) {
        random = new Random(seed);
    }

    public static void main(String[] args) {
        for (int run = 0; run < RUNS; run++) {
            new ModelTest(run).run(run);
        }
        Tally.end();
    }

    private void run(int number) {
        int building = 20 + random.nextInt(90);
        int calls = CALLS - random.nextInt(300);
        for (int i = 0; i < calls; i++) {
            int act = pick(i < building ? BUILDING : RUNNING);
            if (act == 36 && random.nextInt(3) == 0 && i > building) {
                act = 32;
            }
            int[] a = numbers(act);
            int due = model.call(act, a);
            Tally.due("run " + number + ", call " + i + ": act " + act + " of " + a[0] + ", " + a[1] + ", " + a[2] + ", "
                + a[3] + ", " + a[4], call(act, a), due);
            fixtures = model.call(37, of(0));
        }
        compareAll(number);
    }

    private int pick(int[] weights) {
        int all = 0;
        for (int weight : weights) {
            all += weight;
        }
        int left = random.nextInt(all);
        int act = 0;
        while (left >= weights[act]) {
            left -= weights[act];
            act++;
        }
        return act;
    }

    /** Mostly as told, now and then just beside it, seldom far off. */
    private int near(int least, int most) {
        int luck = random.nextInt(60);
        if (luck == 0) {
            return least - 1;
        }
        if (luck == 1) {
            return most + 1;
        }
        if (luck == 2) {
            return random.nextInt();
        }
        if (luck < 7) {
            return luck % 2 == 0 ? least : most;
        }
        return least + random.nextInt(most - least + 1);
    }

    private int fixture() {
        return near(0, Math.max(0, fixtures - 1));
    }

    private int bit() {
        return random.nextInt(2);
    }

    private int[] numbers(int act) {
        return switch (act) {
            case 0 -> of(near(0, 3), random.nextInt(3) == 0 ? near(0, 64) : near(8, 30));
            case 1, 2 -> of(near(0, 3));
            case 3, 4 -> of(near(0, 3), near(0, 40));
            case 5 -> of(near(0, 3), near(0, 100));
            case 6 -> of(near(0, 2), near(0, 6));
            case 7 -> of(near(0, Math.max(0, fixtures - 1)), near(0, 5), random.nextInt(8) == 0 ? -1 : fixture());
            case 8 -> of(fixture(), near(0, 12));
            case 9 -> of(fixture(), near(0, 3));
            case 10 -> of(near(0, 12));
            case 11 -> of(fixture(), near(0, 4));
            case 12 -> of(fixture(), near(0, 3), random.nextInt(4) == 0 ? near(0, 63) : near(0, 24));
            case 13 -> of(fixture());
            case 14 -> of(fixture(), bit());
            case 15 -> of(near(0, 3), near(0, 255), someFloat());
            case 16 -> of(near(0, 3), near(0, 255));
            case 17 -> of(fixture(), near(0, 2), near(-1, 3));
            case 18 -> of(random.nextInt(3) == 0 ? near(0, 15) : near(0, 4), fixture(), near(0, 2), someValue(), someTicks());
            case 19 -> of(near(0, 3), random.nextInt(3) == 0 ? near(0, 15) : near(0, 4), bit() == 0 ? near(0, 5) : near(0, 50));
            default -> moreNumbers(act);
        };
    }

    private int[] moreNumbers(int act) {
        return switch (act) {
            case 20 -> of(near(0, 3), near(-1, 3));
            case 21, 22, 23 -> of(near(0, 3));
            case 24 -> of(near(-1, 3), near(0, 100));
            case 25 -> of(fixture(), near(0, 2), bit());
            case 26 -> of(near(0, 3), fixture(), near(0, 2));
            case 27 -> of(near(0, 3), near(0, 6));
            case 28 -> of(near(0, 3), random.nextInt(4) == 0 ? near(0, 1000000) : near(0, 300));
            case 29, 30 -> of(near(0, 3));
            case 31 -> of(bit());
            case 32 -> of(near(1, 5));
            case 33 -> of(near(1, 6));
            case 36 -> of(random.nextInt(3) == 0 ? near(0, 50) : near(0, 6));
            case 37 -> of(near(0, 4));
            default -> of();
        };
    }

    private int someFloat() {
        int luck = random.nextInt(6);
        if (luck == 0) {
            return random.nextInt();
        }
        return luck == 1 ? FLOATS[random.nextInt(FLOATS.length)] : Float.floatToRawIntBits(random.nextInt(3000) / 10f - 20f);
    }

    private int someValue() {
        return random.nextInt(3) == 0 ? near(0, 65535) : near(0, 300);
    }

    private int someTicks() {
        int luck = random.nextInt(4);
        return luck == 0 ? 0 : luck == 1 ? near(0, 100) : near(0, 8);
    }

    private static int[] of(int... given) {
        return Arrays.copyOf(given, 5);
    }

    private int call(int act, int[] a) {
        callsLeft--;
        return switch (act) {
            case 0 -> board.line(a[0], a[1]);
            case 1 -> board.pull(a[0]);
            case 2 -> board.plug(a[0]);
            case 3 -> board.at(a[0], a[1]);
            case 4 -> board.wide(a[0], a[1]);
            case 5 -> board.fixture(a[0], a[1]);
            case 6 -> board.group(a[0], a[1]);
            case 7 -> board.member(a[0], a[1], a[2]);
            case 8 -> board.memberAt(a[0], a[1]);
            case 9 -> board.asks(a[0], a[1]);
            case 10 -> board.trace(a[0]);
            case 11 -> board.about(a[0], a[1]);
            case 12 -> board.patch(a[0], a[1], a[2]);
            case 13 -> board.unpatch(a[0]);
            case 14 -> board.firm(a[0], a[1] == 1);
            case 15 -> board.point(a[0], a[1], a[2]);
            case 16 -> board.curve(a[0], a[1]);
            case 17 -> board.bend(a[0], a[1], a[2]);
            case 18 -> board.entry(a[0], a[1], a[2], a[3], a[4]);
            case 19 -> board.list(a[0], a[1], a[2]);
            default -> callMore(act, a);
        };
    }

    private int callMore(int act, int[] a) {
        return switch (act) {
            case 20 -> board.load(a[0], a[1]);
            case 21 -> board.go(a[0]);
            case 22 -> board.stop(a[0]);
            case 23 -> board.release(a[0]);
            case 24 -> board.master(a[0], a[1]);
            case 25 -> board.merge(a[0], a[1], a[2] == 1);
            case 26 -> board.value(a[0], a[1], a[2]);
            case 27 -> board.playback(a[0], a[1]);
            case 28 -> board.limit(a[0], a[1]);
            case 29 -> board.heat(a[0]);
            case 30 -> board.over(a[0]);
            case 31 -> board.blackout(a[0] == 1);
            case 32 -> board.tick(a[0]);
            case 33 -> board.found(a[0]);
            case 34 -> board.digest();
            case 35 -> board.replay();
            case 36 -> board.back(a[0]);
            default -> board.told(a[0]);
        };
    }

    private void compareAll(int number) {
        List<int[]> asked = asked();
        Collections.shuffle(asked, random);
        for (int i = 0; i < asked.size() && callsLeft > 0; i++) {
            int act = asked.get(i)[0];
            int[] given = of(Arrays.copyOfRange(asked.get(i), 1, asked.get(i).length));
            Tally.due("end of run " + number + ": act " + act + " of " + given[0] + ", " + given[1] + ", " + given[2],
                call(act, given), model.call(act, given));
        }
    }

    /** All that can be asked of a board, each as the number of the call and what it is given. */
    private List<int[]> asked() {
        List<int[]> all = new ArrayList<>();
        for (int l = 0; l < 4; l++) {
            all.add(new int[] {29, l});
            all.add(new int[] {30, l});
            for (int p = 0; p < 64; p++) {
                all.add(new int[] {3, l, p});
            }
            for (int v = 0; v < 256; v += 5) {
                all.add(new int[] {16, l, v});
            }
            for (int what = 0; what < 7; what++) {
                all.add(new int[] {27, l, what});
            }
        }
        for (int f = 0; f < fixtures; f++) {
            for (int what = 0; what < 5; what++) {
                all.add(new int[] {11, f, what});
            }
            for (int c = 0; c < 3; c++) {
                for (int p = 0; p < 4; p++) {
                    all.add(new int[] {26, p, f, c});
                }
            }
            for (int k = 0; k < 10; k++) {
                all.add(new int[] {8, f, k});
            }
        }
        for (int finding = 1; finding <= 6; finding++) {
            all.add(new int[] {33, finding});
        }
        for (int what = 0; what < 5; what++) {
            all.add(new int[] {37, what});
        }
        all.add(new int[] {34});
        all.add(new int[] {35});
        return all;
    }
}
