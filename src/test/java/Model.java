import java.util.ArrayList;
import java.util.HashMap;
import java.util.List;
import java.util.Map;

/**
 * The document once more, written to be plain instead of thrifty, in another way than the program:
 * kinds are classes, bodies are methods, and back() makes a new stage. ModelTest compares both.
 */
final class Model {
    private static final int NONE = -1, BAD = -2, NO = -3, FULL = -4;
    private static final int NOTHING = 1, BEYOND = 2, SORT = 3, NOUGHT = 4, FEWER = 5, STORE = 6;

    private abstract static class Fixture {
        final int number;
        final int n;
        final List<Integer> trace;
        int line = NONE;
        int place = NONE;
        boolean firm = false;

        Fixture(int number, int n, List<Integer> trace) {
            this.number = number;
            this.n = n;
            this.trace = trace;
        }

        abstract int kind();

        abstract int span();

        /** A letter a CHANNEL: w wide, d dimming, p plain. */
        abstract String channels();

        void addMembers(List<Fixture> members) {
            members.add(this);
        }

        boolean has(int c) {
            return c < channels().length();
        }

        char sort(int c) {
            return channels().charAt(c);
        }

        int offset(int c) {
            int all = 0;
            for (int i = 0; i < c; i++) {
                all += width(i);
            }
            return all;
        }

        int width(int c) {
            return sort(c) == 'w' ? 2 : 1;
        }
    }

    private interface Shows {
        Fixture self();

        default int heat() {
            self().trace.add(10);
            return 20 * self().span();
        }

        default int most() {
            self().trace.add(30);
            return 255;
        }
    }

    private interface Moves {
        Fixture self();

        default int reach() {
            self().trace.add(20);
            return 360;
        }

        default int most() {
            self().trace.add(31);
            return 300 - self().n;
        }
    }

    private static class Dimmer extends Fixture implements Shows {
        Dimmer(int number, int n, List<Integer> trace) {
            super(number, n, trace);
        }

        public Fixture self() {
            return this;
        }

        int kind() {
            return 0;
        }

        int span() {
            trace.add(1);
            return 1;
        }

        String channels() {
            return "d";
        }
    }

    private static final class Strobe extends Dimmer {
        Strobe(int number, int n, List<Integer> trace) {
            super(number, n, trace);
        }

        int kind() {
            return 1;
        }

        int span() {
            trace.add(2);
            return super.span() + 1;
        }

        public int heat() {
            trace.add(11);
            return super.heat() / 2;
        }

        String channels() {
            return "dp";
        }
    }

    private static final class Mover extends Fixture implements Shows, Moves {
        Mover(int number, int n, List<Integer> trace) {
            super(number, n, trace);
        }

        public Fixture self() {
            return this;
        }

        int kind() {
            return 2;
        }

        int span() {
            trace.add(3);
            return 5;
        }

        public int heat() {
            trace.add(12);
            return Shows.super.heat() + n;
        }

        public int most() {
            trace.add(32);
            return Math.min(Shows.super.most(), Moves.super.most());
        }

        String channels() {
            return "wwd";
        }
    }

    private static final class Screen extends Fixture implements Shows, Moves {
        Screen(int number, int n, List<Integer> trace) {
            super(number, n, trace);
        }

        public Fixture self() {
            return this;
        }

        int kind() {
            return 3;
        }

        int span() {
            trace.add(4);
            return 3;
        }

        public int reach() {
            trace.add(21);
            return Moves.super.reach() / n;
        }

        public int most() {
            trace.add(33);
            return Math.min(Shows.super.most(), Moves.super.most());
        }

        String channels() {
            return "ddd";
        }
    }

    private static final class Group extends Fixture {
        final Fixture[] places;

        Group(int number, int form, int k, List<Integer> trace) {
            super(number, form, trace);
            places = new Fixture[k];
        }

        int kind() {
            return 4;
        }

        int span() {
            trace.add(5);
            int all = 0;
            for (Fixture f : places) {
                all += f == null ? 0 : f.span();
            }
            return all;
        }

        String channels() {
            return "";
        }

        void addMembers(List<Fixture> members) {
            for (Fixture f : places) {
                if (f != null) {
                    f.addMembers(members);
                }
            }
        }
    }

    /** A CHANNEL in a PLAYBACK. */
    private static final class Fade {
        double from;
        double to;
        int length = 0;
        int gone = 0;
        int value = 0;
        int began = 0;

        boolean goes() {
            return gone < length;
        }

        void step() {
            if (goes()) {
                gone++;
                value = (int) Math.floor(from + (to - from) * gone / length + 0.5 + 1e-9);
            }
        }
    }

    private static final class Play {
        int list = NONE;
        int place = -1;
        int master = 100;
        int acts = 0;
        int began = 0;
        boolean follows = false;
        Map<Integer, Fade> fades = new HashMap<>();

        int going() {
            int all = 0;
            for (Fade fade : fades.values()) {
                all += fade.goes() ? 1 : 0;
            }
            return all;
        }
    }

    private static final class Stage {
        final int[][] lines = new int[4][];
        final boolean[] pulled = new boolean[4];
        final int[] limits = {1000000, 1000000, 1000000, 1000000};
        final int[] heats = new int[4];
        final boolean[] overs = new boolean[4];
        final List<Fixture> fixtures = new ArrayList<>();
        final List<Fixture> patched = new ArrayList<>();
        final List<List<float[]>> curves = new ArrayList<>();
        final Map<Integer, Integer> bends = new HashMap<>();
        final Map<Integer, Integer> bents = new HashMap<>();
        final Map<Integer, Boolean> latest = new HashMap<>();
        final Map<Integer, List<int[]>> cues = new HashMap<>();
        final Map<Integer, List<int[]>> lists = new HashMap<>();
        final Play[] plays = {new Play(), new Play(), new Play(), new Play()};
        final int[] found = new int[7];
        final List<Integer> trace = new ArrayList<>();
        int begun = 0;
        int grand = 100;
        boolean dark = false;
        int ticks = 0;
        int digest = 0;
    }

    private Stage s = newStage();
    private final List<int[]> book = new ArrayList<>();
    private boolean more = false;

    private static Stage newStage() {
        Stage stage = new Stage();
        for (int i = 0; i < 4; i++) {
            stage.curves.add(new ArrayList<>());
        }
        return stage;
    }

    private int find(int finding) {
        s.found[finding]++;
        return -10 - finding;
    }

    private static boolean in(int x, int least, int most) {
        return least <= x && x <= most;
    }

    private boolean is(int f) {
        return in(f, 0, s.fixtures.size() - 1);
    }

    private static int key(Fixture f, int c) {
        return f.number * 3 + c;
    }

    /** Any call of the face, by its place there; booleans come as 1 and 0. */
    int call(int act, int[] a) {
        int answer = act(act, a);
        boolean acts = switch (act) {
            case 0, 1, 2, 5, 6, 7, 12, 13, 14, 15, 17, 18, 19, 20, 21, 22, 23, 24, 25, 28, 31, 32 -> true;
            default -> false;
        };
        if (acts && answer >= 0) {
            if (book.size() == 120) {
                more = true;
            } else {
                book.add(new int[] {act, a[0], a[1], a[2], a[3], a[4]});
            }
        }
        return answer;
    }

    private int act(int act, int[] a) {
        return switch (act) {
            case 0 -> line(a[0], a[1]);
            case 1 -> pull(a[0]);
            case 2 -> plug(a[0]);
            case 3 -> at(a[0], a[1]);
            case 4 -> wide(a[0], a[1]);
            case 5 -> fixture(a[0], a[1]);
            case 6 -> group(a[0], a[1]);
            case 7 -> member(a[0], a[1], a[2]);
            case 8 -> memberAt(a[0], a[1]);
            case 9 -> asks(a[0], a[1]);
            case 10 -> in(a[0], 0, s.trace.size() - 1) ? s.trace.get(a[0]) : NONE;
            case 11 -> about(a[0], a[1]);
            case 12 -> patch(a[0], a[1], a[2]);
            case 13 -> unpatch(a[0]);
            case 14 -> firm(a[0], a[1] == 1);
            case 15 -> point(a[0], a[1], a[2]);
            case 16 -> curve(a[0], a[1]);
            case 17 -> bend(a[0], a[1], a[2]);
            case 18 -> entry(a);
            case 19 -> list(a[0], a[1], a[2]);
            default -> actMore(act, a);
        };
    }

    private int actMore(int act, int[] a) {
        return switch (act) {
            case 20 -> load(a[0], a[1]);
            case 21 -> go(a[0]);
            case 22 -> stop(a[0]);
            case 23 -> release(a[0]);
            case 24 -> master(a[0], a[1]);
            case 25 -> merge(a[0], a[1], a[2] == 1);
            case 26 -> value(a[0], a[1], a[2]);
            case 27 -> playback(a[0], a[1]);
            case 28 -> limit(a[0], a[1]);
            case 29 -> in(a[0], 0, 3) ? s.heats[a[0]] : BAD;
            case 30 -> in(a[0], 0, 3) ? (s.overs[a[0]] ? 1 : 0) : BAD;
            case 31 -> blackout(a[0] == 1);
            case 32 -> tick(a[0]);
            case 33 -> in(a[0], 1, 6) ? s.found[a[0]] : BAD;
            case 34 -> s.digest;
            case 35 -> replay();
            case 36 -> back(a[0]);
            default -> told(a[0]);
        };
    }

    private int line(int l, int n) {
        if (!in(l, 0, 3) || n > 64) {
            return BAD;
        }
        if (n < 0) {
            return find(FEWER);
        }
        s.lines[l] = new int[n];
        s.pulled[l] = false;
        return 1;
    }

    private int pull(int l) {
        if (!in(l, 0, 3)) {
            return BAD;
        }
        if (s.lines[l] == null || s.pulled[l]) {
            return NO;
        }
        s.pulled[l] = true;
        return 1;
    }

    private int plug(int l) {
        if (!in(l, 0, 3)) {
            return BAD;
        }
        if (s.lines[l] == null || !s.pulled[l]) {
            return NO;
        }
        s.pulled[l] = false;
        s.lines[l] = new int[s.lines[l].length];
        return 1;
    }

    private int at(int l, int p) {
        if (!in(l, 0, 3)) {
            return BAD;
        }
        if (s.lines[l] == null || s.pulled[l]) {
            return find(NOTHING);
        }
        return in(p, 0, s.lines[l].length - 1) ? s.lines[l][p] : find(BEYOND);
    }

    private int wide(int l, int p) {
        if (!in(l, 0, 3)) {
            return BAD;
        }
        if (s.lines[l] == null || s.pulled[l]) {
            return find(NOTHING);
        }
        return in(p, 0, s.lines[l].length - 2) ? s.lines[l][p] << 8 | s.lines[l][p + 1] : find(BEYOND);
    }

    private int fixture(int kind, int n) {
        if (!in(kind, 0, 3) || !in(n, 0, 100)) {
            return BAD;
        }
        int f = s.fixtures.size();
        if (f == 24) {
            return FULL;
        }
        s.fixtures.add(switch (kind) {
            case 0 -> new Dimmer(f, n, s.trace);
            case 1 -> new Strobe(f, n, s.trace);
            case 2 -> new Mover(f, n, s.trace);
            default -> new Screen(f, n, s.trace);
        });
        return f;
    }

    private int group(int form, int k) {
        if (!in(form, 0, 2) || k > 6) {
            return BAD;
        }
        long groups = s.fixtures.stream().filter(f -> f instanceof Group).count();
        if (s.fixtures.size() == 24 || groups == 3) {
            return FULL;
        }
        if (k < 0) {
            return find(FEWER);
        }
        s.fixtures.add(new Group(s.fixtures.size(), form, k, s.trace));
        return s.fixtures.size() - 1;
    }

    private int member(int g, int i, int f) {
        if (!is(g) || f != NONE && !is(f) || f != NONE && f >= g) {
            return BAD;
        }
        if (!(s.fixtures.get(g) instanceof Group group)) {
            return find(SORT);
        }
        if (!in(i, 0, group.places.length - 1)) {
            return find(BEYOND);
        }
        Fixture put = f == NONE ? null : s.fixtures.get(f);
        boolean stores = put == null || group.n == 0 || group.n == 1 && put instanceof Dimmer
            || group.n == 2 && put instanceof Moves;
        if (!stores) {
            return find(STORE);
        }
        group.places[i] = put;
        return 1;
    }

    private int memberAt(int g, int k) {
        if (!is(g)) {
            return BAD;
        }
        if (!(s.fixtures.get(g) instanceof Group group)) {
            return find(SORT);
        }
        List<Fixture> members = new ArrayList<>();
        group.addMembers(members);
        return in(k, 0, members.size() - 1) ? members.get(k).number : NONE;
    }

    private int asks(int f, int ask) {
        if (!is(f) || !in(ask, 0, 3)) {
            return BAD;
        }
        s.trace.clear();
        Fixture asked = s.fixtures.get(f);
        if (ask == 0) {
            return asked.span();
        }
        if (ask == 2) {
            if (!(asked instanceof Moves mover)) {
                return find(SORT);
            }
            try {
                return mover.reach();
            } catch (ArithmeticException nought) {
                return find(NOUGHT);
            }
        }
        if (!(asked instanceof Shows shower)) {
            return find(SORT);
        }
        return ask == 1 ? shower.heat() : shower.most();
    }

    private int about(int f, int what) {
        if (!is(f) || !in(what, 0, 4)) {
            return BAD;
        }
        Fixture x = s.fixtures.get(f);
        return new int[] {x.kind(), x.n, x.line, x.place, x.firm ? 1 : 0}[what];
    }

    private int patch(int f, int l, int p) {
        if (!is(f) || !in(l, 0, 3) || !in(p, 0, 63)) {
            return BAD;
        }
        Fixture x = s.fixtures.get(f);
        if (x instanceof Group) {
            return find(SORT);
        }
        s.patched.remove(x);
        s.patched.add(x);
        x.line = l;
        x.place = p;
        return 1;
    }

    private int unpatch(int f) {
        if (!is(f)) {
            return BAD;
        }
        Fixture x = s.fixtures.get(f);
        if (!s.patched.remove(x)) {
            return NO;
        }
        x.line = NONE;
        x.place = NONE;
        return 1;
    }

    private int firm(int f, boolean on) {
        if (!is(f)) {
            return BAD;
        }
        s.fixtures.get(f).firm = on;
        return 1;
    }

    private int point(int curve, int x, int bits) {
        float y = Float.intBitsToFloat(bits);
        if (!in(curve, 0, 3) || !in(x, 0, 255) || Float.isInfinite(y)) {
            return BAD;
        }
        List<float[]> points = s.curves.get(curve);
        if (!points.isEmpty() && points.get(points.size() - 1)[0] >= x) {
            return BAD;
        }
        if (points.size() == 8) {
            return FULL;
        }
        points.add(new float[] {x, y});
        return points.size();
    }

    /** No number in a HOLE. */
    private float height(int curve, int v) {
        List<float[]> points = s.curves.get(curve);
        if (points.isEmpty()) {
            return v;
        }
        float[] before = null;
        for (float[] point : points) {
            if (point[0] == v) {
                return point[1];
            }
            if (point[0] > v) {
                if (before == null) {
                    return point[1];
                }
                float part = ((float) v - before[0]) / (point[0] - before[0]);
                return before[1] + (point[1] - before[1]) * part;
            }
            before = point;
        }
        return before[1];
    }

    private int curve(int curve, int v) {
        return in(curve, 0, 3) && in(v, 0, 255) ? Float.floatToIntBits(height(curve, v)) : 0;
    }

    private int bend(int f, int c, int curve) {
        if (!is(f) || !in(c, 0, 2) || !in(curve, -1, 3)) {
            return BAD;
        }
        Fixture x = s.fixtures.get(f);
        if (!x.has(c) || x.sort(c) == 'w') {
            return find(SORT);
        }
        s.bends.put(key(x, c), curve);
        return 1;
    }

    private int entry(int[] a) {
        if (!in(a[0], 0, 15) || !is(a[1]) || !in(a[2], 0, 2) || !in(a[3], 0, 65535) || !in(a[4], 0, 100)) {
            return BAD;
        }
        List<int[]> entries = s.cues.computeIfAbsent(a[0], k -> new ArrayList<>());
        if (entries.size() == 12) {
            return FULL;
        }
        entries.add(new int[] {a[1], a[2], a[3], a[4]});
        return entries.size();
    }

    private int list(int list, int cue, int follow) {
        if (!in(list, 0, 3) || !in(cue, 0, 15) || !in(follow, 0, 50)) {
            return BAD;
        }
        List<int[]> steps = s.lists.computeIfAbsent(list, k -> new ArrayList<>());
        if (steps.size() == 8) {
            return FULL;
        }
        steps.add(new int[] {cue, follow});
        return steps.size();
    }

    private int load(int p, int list) {
        if (!in(p, 0, 3) || !in(list, -1, 3)) {
            return BAD;
        }
        s.plays[p].list = list;
        s.plays[p].place = -1;
        return 1;
    }

    private int[] step(int list, int place) {
        List<int[]> steps = s.lists.getOrDefault(list, List.of());
        return in(place, 0, steps.size() - 1) ? steps.get(place) : null;
    }

    private int go(int p) {
        if (!in(p, 0, 3)) {
            return BAD;
        }
        Play play = s.plays[p];
        if (play.list == NONE || step(play.list, play.place + 1) == null) {
            return NO;
        }
        play.acts++;
        return begin(play);
    }

    private int begin(Play play) {
        play.place++;
        play.began = s.ticks;
        play.follows = true;
        int cue = step(play.list, play.place)[0];
        for (int[] entry : s.cues.getOrDefault(cue, List.of())) {
            List<Fixture> members = new ArrayList<>();
            s.fixtures.get(entry[0]).addMembers(members);
            for (Fixture f : members) {
                if (!f.has(entry[1])) {
                    find(SORT);
                } else {
                    fade(play, key(f, entry[1]), f.sort(entry[1]) == 'w' ? entry[2] : Math.min(entry[2], 255), entry[3]);
                }
            }
        }
        return cue;
    }

    private void fade(Play play, int key, int to, int ticks) {
        Fade old = play.fades.get(key);
        Fade fade = new Fade();
        fade.from = old == null ? 0 : old.value;
        fade.to = to;
        fade.length = ticks;
        fade.value = ticks == 0 ? to : (int) fade.from;
        fade.began = ++s.begun;
        play.fades.put(key, fade);
    }

    private int stop(int p) {
        if (!in(p, 0, 3)) {
            return BAD;
        }
        int went = s.plays[p].going();
        for (Fade fade : s.plays[p].fades.values()) {
            fade.length = 0;
        }
        s.plays[p].follows = false;
        return went;
    }

    private int release(int p) {
        if (!in(p, 0, 3)) {
            return BAD;
        }
        int had = s.plays[p].fades.size();
        s.plays[p].fades.clear();
        s.plays[p].place = -1;
        return had;
    }

    private int master(int p, int m) {
        if (!in(p, -1, 3) || !in(m, 0, 100)) {
            return BAD;
        }
        int before = p == NONE ? s.grand : s.plays[p].master;
        if (p == NONE) {
            s.grand = m;
        } else {
            s.plays[p].master = m;
        }
        return before;
    }

    private int merge(int f, int c, boolean byLatest) {
        if (!is(f) || !in(c, 0, 2)) {
            return BAD;
        }
        if (!s.fixtures.get(f).has(c)) {
            return find(SORT);
        }
        s.latest.put(key(s.fixtures.get(f), c), byLatest);
        return 1;
    }

    private int value(int p, int f, int c) {
        if (!in(p, 0, 3) || !is(f) || !in(c, 0, 2)) {
            return BAD;
        }
        Fixture x = s.fixtures.get(f);
        if (!x.has(c)) {
            return find(SORT);
        }
        Fade fade = s.plays[p].fades.get(key(x, c));
        return fade == null ? NONE : fade.value;
    }

    private int playback(int p, int what) {
        if (!in(p, 0, 3) || !in(what, 0, 6)) {
            return BAD;
        }
        Play play = s.plays[p];
        int acts = play.acts + s.ticks;
        return new int[] {play.list, play.place, play.master, play.going(), acts, acts, play.fades.size()}[what];
    }

    private int limit(int l, int n) {
        if (!in(l, 0, 3) || !in(n, 0, 1000000)) {
            return BAD;
        }
        s.limits[l] = n;
        return 1;
    }

    private int blackout(boolean on) {
        int before = s.dark ? 1 : 0;
        s.dark = on;
        return before;
    }

    private int tick(int n) {
        if (!in(n, 1, 5)) {
            return BAD;
        }
        if (s.ticks + n > 2000) {
            return FULL;
        }
        List<Integer> trace = new ArrayList<>(s.trace);
        for (int i = 0; i < n; i++) {
            oneTick();
        }
        s.trace.clear();
        s.trace.addAll(trace);
        return s.ticks;
    }

    private void oneTick() {
        s.ticks++;
        for (Play play : s.plays) {
            for (Fade fade : play.fades.values()) {
                fade.step();
            }
            int[] at = play.place < 0 ? null : step(play.list, play.place);
            if (at != null && play.follows && at[1] > 0 && s.ticks - play.began == at[1]
                    && step(play.list, play.place + 1) != null) {
                begin(play);
            }
        }
        Map<Integer, Integer> out = new HashMap<>();
        for (Fixture f : s.patched) {
            for (int c = 0; f.has(c); c++) {
                out.put(key(f, c), level(f, c));
            }
        }
        for (int l = 0; l < 4; l++) {
            cool(l, out);
        }
        write(out);
        for (int l = 0; l < 4; l++) {
            if (s.lines[l] != null && !s.pulled[l]) {
                for (int b : s.lines[l]) {
                    s.digest = 31 * s.digest + b;
                }
            }
        }
    }

    private int level(Fixture f, int c) {
        boolean dims = f.sort(c) == 'd';
        boolean byLatest = s.latest.getOrDefault(key(f, c), false);
        int merged = 0;
        int began = -1;
        for (Play play : s.plays) {
            Fade fade = play.fades.get(key(f, c));
            if (fade == null) {
                continue;
            }
            int value = dims ? fade.value * play.master / 100 : fade.value;
            if (byLatest ? fade.began > began : value > merged) {
                merged = value;
                began = fade.began;
            }
        }
        int level = dims ? merged * s.grand / 100 : merged;
        int curve = s.bends.getOrDefault(key(f, c), NONE);
        if (curve != NONE) {
            float height = height(curve, level);
            if (!Float.isNaN(height)) {
                s.bents.put(key(f, c), Math.max(0, Math.min(255, (int) (height + 0.5f))));
            }
            level = s.bents.getOrDefault(key(f, c), 0);
        }
        return dims ? Math.min(level, ((Shows) f).most()) : level;
    }

    private boolean whole(Fixture f, int c) {
        int[] bytes = s.lines[f.line];
        return bytes != null && f.place + f.offset(c) + f.width(c) <= bytes.length;
    }

    private int heat(int l, Map<Integer, Integer> out) {
        int all = 0;
        for (Fixture f : s.patched) {
            for (int c = 0; f.line == l && f.has(c); c++) {
                if (f.sort(c) == 'd' && whole(f, c)) {
                    all += ((Shows) f).heat() * out.get(key(f, c)) / 255;
                }
            }
        }
        return all;
    }

    private void cool(int l, Map<Integer, Integer> out) {
        for (int i = s.patched.size() - 1; i >= 0; i--) {
            Fixture f = s.patched.get(i);
            if (f.line != l || f.firm) {
                continue;
            }
            for (int c = f.channels().length() - 1; c >= 0; c--) {
                while (f.sort(c) == 'd' && whole(f, c) && heat(l, out) > s.limits[l] && out.get(key(f, c)) > 0) {
                    out.put(key(f, c), out.get(key(f, c)) - 1);
                }
            }
        }
        s.heats[l] = heat(l, out);
        s.overs[l] = s.heats[l] > s.limits[l];
    }

    private void write(Map<Integer, Integer> out) {
        for (int l = 0; l < 4; l++) {
            if (s.lines[l] != null && !s.pulled[l]) {
                s.lines[l] = new int[s.lines[l].length];
            }
        }
        for (Fixture f : s.patched) {
            for (int c = 0; f.has(c); c++) {
                if (s.lines[f.line] == null || s.pulled[f.line]) {
                    find(NOTHING);
                } else if (!whole(f, c)) {
                    find(BEYOND);
                } else {
                    int value = s.dark && f.sort(c) == 'd' ? 0 : out.get(key(f, c));
                    int first = f.place + f.offset(c);
                    if (f.sort(c) == 'w') {
                        s.lines[f.line][first] = value >> 8;
                        s.lines[f.line][first + 1] = value & 255;
                    } else {
                        s.lines[f.line][first] = value;
                    }
                }
            }
        }
    }

    private void play(List<int[]> calls) {
        s = newStage();
        for (int[] call : calls) {
            act(call[0], new int[] {call[1], call[2], call[3], call[4], call[5]});
        }
    }

    private int replay() {
        if (more) {
            return NO;
        }
        Stage kept = s;
        play(book);
        int digest = s.digest;
        s = kept;
        return digest;
    }

    private int back(int n) {
        if (!in(n, 0, 50)) {
            return BAD;
        }
        if (more || s.ticks < n + 1) {
            return NO;
        }
        int drop = n;
        while (true) {
            int[] last = book.get(book.size() - 1);
            if (last[0] == 32 && last[1] > drop) {
                last[1] -= drop;
                break;
            }
            drop -= last[0] == 32 ? last[1] : 0;
            book.remove(book.size() - 1);
        }
        play(book);
        return s.ticks;
    }

    private int told(int what) {
        int calls = more ? 121 : book.size();
        return in(what, 0, 4) ? new int[] {s.fixtures.size(), s.ticks, calls, s.dark ? 1 : 0, s.grand}[what] : BAD;
    }
}
