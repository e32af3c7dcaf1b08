import java.util.ArrayList;
import java.util.HashSet;
import java.util.LinkedHashMap;
import java.util.LinkedList;
import java.util.List;
import java.util.Map;
import java.util.Set;

/**
 * The document once more, written in another way than the class and without its limits,
 * so that both can be compared call by call. Its public methods are those of the face.
 */
public final class Model {
    static final int NONE = -1;
    static final int FLIES = 0, DOWN = 1, DRIFTS = 2, FELL = 3, PICKED = 4;
    static final String[] SETTINGS = {"slack", "rise", "climb", "sink", "reach", "pick"};
    static final int[] FIRST = {5, 2, 3, 4, 3, 10};
    static final int[] LEAST = {0, 0, 0, 1, 0, 0};
    static final int[] MOST = {99, 9, 9, 20, 50, 50};
    static final Set<String> QUOTED = Set.of("kite", "sharp", "tough", "out", "wind", "slack", "rise", "climb", "sink", "reach", "pick");

    /** A kite's numbers in the order of promise 10. */
    static final int STATE = 0, X = 1, Y = 2, H = 3, FX = 4, FY = 5, OUT = 6, REEL = 7, SHARP = 8, TOUGH = 9, WEAR = 10, POINTS = 11, PICKER = 12, CUTTER = 13;

    static final class World {
        List<String> names = new ArrayList<>();
        List<int[]> kites = new ArrayList<>();
        List<int[]> winds = new ArrayList<>();
        List<int[]> events = new ArrayList<>();
        int[] settings = FIRST.clone();
        int time;
        int cuts;

        World copy() {
            World w = new World();
            w.names.addAll(names);
            for (int[] k : kites) w.kites.add(k.clone());
            for (int[] k : winds) w.winds.add(k.clone());
            for (int[] k : events) w.events.add(k.clone());
            w.settings = settings.clone();
            w.time = time;
            w.cuts = cuts;
            return w;
        }

        int windNumber(int height) {
            for (int i = winds.size() - 1; i > 0; i--) {
                if (winds.get(i)[0] <= height) return i;
            }
            return 0;
        }

        static int force(int[] wind) {
            return Math.max(Math.abs(wind[1]), Math.abs(wind[2]));
        }

        static int root(long n) {
            int r = 0;
            while ((long) (r + 1) * (r + 1) <= n) r++;
            return r;
        }

        static int spanOf(int[] k) {
            long dx = k[X] - k[FX], dy = k[Y] - k[FY];
            return root(dx * dx + dy * dy + (long) k[H] * k[H]);
        }

        static int slackOf(int[] k) {
            return k[OUT] - spanOf(k);
        }

        static long side(long ax, long ay, long bx, long by, long cx, long cy) {
            return (bx - ax) * (cy - ay) - (by - ay) * (cx - ax);
        }

        /** null, or x, y, height of the line of i, height of the line of j; of lines whose kites may fly or not. */
        int[] meeting(int i, int j) {
            if (i > j) {
                int[] m = meeting(j, i);
                return m == null ? null : new int[] {m[0], m[1], m[3], m[2]};
            }
            int[] a = kites.get(i), b = kites.get(j);
            long a1 = side(b[FX], b[FY], b[X], b[Y], a[FX], a[FY]);
            long a2 = side(b[FX], b[FY], b[X], b[Y], a[X], a[Y]);
            long b1 = side(a[FX], a[FY], a[X], a[Y], b[FX], b[FY]);
            long b2 = side(a[FX], a[FY], a[X], a[Y], b[X], b[Y]);
            if (Long.signum(a1) * Long.signum(a2) != -1 || Long.signum(b1) * Long.signum(b2) != -1) return null;
            long p = Math.abs(a1), q = Math.abs(a1 - a2);
            long r = Math.abs(b1), s = Math.abs(b1 - b2);
            int x = a[FX] + (int) Math.floor((double) ((a[X] - a[FX]) * p) / q + 1e-9);
            int y = a[FY] + (int) Math.floor((double) ((a[Y] - a[FY]) * p) / q + 1e-9);
            return new int[] {x, y, lineHeight(a, p, q), lineHeight(b, r, s)};
        }

        static int lineHeight(int[] k, long p, long q) {
            int height = (int) (k[H] * p / q);
            int slack = slackOf(k);
            if (slack > 0) height -= slack / 2;
            return Math.max(height, 0);
        }

        boolean cross(int i, int j) {
            return kites.get(i)[STATE] == FLIES && kites.get(j)[STATE] == FLIES && meeting(i, j) != null;
        }

        boolean rub(int i, int j) {
            if (!cross(i, j)) return false;
            int[] m = meeting(i, j);
            return Math.abs(m[2] - m[3]) <= settings[4];
        }

        int brings(int kite) {
            return kites.get(kite)[SHARP] * (1 + Math.abs(kites.get(kite)[REEL]));
        }

        int pickerOf(int x, int y, int not) {
            int best = NONE, least = Integer.MAX_VALUE;
            for (int i = kites.size() - 1; i >= 0; i--) {
                int[] k = kites.get(i);
                int dx = Math.abs(k[FX] - x), dy = Math.abs(k[FY] - y);
                if (i == not || k[STATE] > DOWN || Math.max(dx, dy) > settings[5]) continue;
                if (dx + dy <= least) {
                    best = i;
                    least = dx + dy;
                }
            }
            return best;
        }

        void tell(int kind, int kite, int other, int x, int y) {
            events.add(new int[] {time, kind, kite, other, x, y});
        }

        static int clip(int v) {
            return v < 0 ? 0 : v > 199 ? 199 : v;
        }

        void tick() {
            List<Integer> drifters = new ArrayList<>();
            for (int i = 0; i < kites.size(); i++) {
                if (kites.get(i)[STATE] == DRIFTS) drifters.add(i);
            }
            for (int i = 0; i < kites.size(); i++) {
                int[] k = kites.get(i);
                if (k[STATE] != FLIES) continue;
                int[] wind = winds.get(windNumber(k[H]));
                k[OUT] = Math.min(400, Math.max(1, k[OUT] + k[REEL]));
                k[X] = clip(k[X] + wind[1]);
                k[Y] = clip(k[Y] + wind[2]);
                if (slackOf(k) <= settings[0]) {
                    k[H] = Math.min(300, k[H] + settings[1] * force(wind) + (k[REEL] < 0 ? settings[2] : 0));
                } else {
                    k[H] = Math.max(0, k[H] - settings[3]);
                }
                while (slackOf(k) < 0) {
                    int dx = Math.abs(k[X] - k[FX]), dy = Math.abs(k[Y] - k[FY]);
                    int greatest = Math.max(k[H], Math.max(dx, dy));
                    if (k[H] == greatest) k[H]--;
                    else if (dx == greatest) k[X] -= Integer.signum(k[X] - k[FX]);
                    else k[Y] -= Integer.signum(k[Y] - k[FY]);
                }
                if (k[H] == 0) {
                    k[STATE] = DOWN;
                    tell(0, i, NONE, k[X], k[Y]);
                }
            }
            int n = kites.size();
            boolean[][] rubbing = new boolean[n][n];
            for (int i = 0; i < n; i++) {
                for (int j = 0; j < n; j++) rubbing[i][j] = rub(i, j);
            }
            List<Integer> worn = new ArrayList<>();
            for (int i = 0; i < n; i++) {
                for (int j = 0; j < n; j++) {
                    if (rubbing[i][j]) kites.get(i)[WEAR] += brings(j);
                }
                if (kites.get(i)[STATE] == FLIES && kites.get(i)[WEAR] >= kites.get(i)[TOUGH]) worn.add(i);
            }
            for (int i : worn) {
                int by = NONE;
                for (int j = n - 1; j >= 0; j--) {
                    if (rubbing[i][j] && (by == NONE || brings(j) >= brings(by))) by = j;
                }
                int[] place = meeting(i, by);
                kites.get(i)[STATE] = DRIFTS;
                kites.get(i)[CUTTER] = by;
                kites.get(by)[POINTS]++;
                cuts++;
                tell(1, i, by, place[0], place[1]);
            }
            for (int i : drifters) {
                int[] k = kites.get(i);
                int[] wind = winds.get(windNumber(k[H]));
                k[X] = clip(k[X] + wind[1]);
                k[Y] = clip(k[Y] + wind[2]);
                k[H] = Math.max(0, k[H] - settings[3]);
                if (k[H] == 0) {
                    k[STATE] = FELL;
                    tell(2, i, NONE, k[X], k[Y]);
                }
            }
            for (int i = 0; i < n; i++) {
                int[] k = kites.get(i);
                if (k[STATE] != FELL) continue;
                int by = pickerOf(k[X], k[Y], i);
                if (by == NONE) continue;
                k[STATE] = PICKED;
                k[PICKER] = by;
                kites.get(by)[POINTS] += 2;
                tell(3, i, by, k[X], k[Y]);
            }
            time++;
        }

        World behind(int ticks) {
            World w = copy();
            for (int t = 0; t < ticks && w.time < 5000; t++) w.tick();
            return w;
        }
    }

    private String buffer = "";
    private String output = "";
    private int code = 0;
    private int offset = NONE;
    private World now;
    private World kept;
    private final LinkedList<World> before = new LinkedList<>();

    public Model() {
        now = new World();
        now.winds.add(new int[] {0, 3, 0});
    }

    private static void bounds(boolean ok) {
        if (!ok) throw new IndexOutOfBoundsException();
    }

    private static void argument(boolean ok) {
        if (!ok) throw new IllegalArgumentException();
    }

    private static void state(boolean ok) {
        if (!ok) throw new IllegalStateException();
    }

    private int[] at(int kite) {
        bounds(kite >= 0 && kite < now.kites.size());
        return now.kites.get(kite);
    }

    private static void within(int v, int least, int most) {
        argument(least <= v && v <= most);
    }

    private void change() {
        before.addLast(now.copy());
        if (before.size() > 10) before.removeFirst();
    }

    public int feed(int a, int b, int c, int d, int e) {
        if (buffer.length() > 680) return NONE;
        StringBuilder more = new StringBuilder(buffer);
        for (int v : new int[] {a, b, c, d, e}) {
            more.append((char) (v >>> 24)).append((char) (v >>> 16 & 255)).append((char) (v >>> 8 & 255)).append((char) (v & 255));
        }
        buffer = more.toString();
        return buffer.length();
    }

    public boolean truncate(int length) {
        if (length < 0 || length > buffer.length()) return false;
        buffer = buffer.substring(0, length);
        return true;
    }

    // ---- the setup text: tokens first, then the grammar over a list of them

    private static final class Fault extends RuntimeException {
        private static final long serialVersionUID = 1L;
        final int code, offset;

        Fault(int code, int offset) {
            this.code = code;
            this.offset = offset;
        }
    }

    private List<String> tokens;
    private List<Integer> starts;
    private int next;

    private void cutIntoTokens(String text) {
        tokens = new ArrayList<>();
        starts = new ArrayList<>();
        java.util.regex.Matcher m = java.util.regex.Pattern.compile("[a-z]+|[0-9]+|[^ \\n]", java.util.regex.Pattern.DOTALL).matcher(text);
        while (m.find()) {
            tokens.add(m.group());
            starts.add(m.start());
        }
        tokens.add("");
        starts.add(text.length());
        next = 0;
    }

    private String token() {
        return tokens.get(next);
    }

    private Fault fault(int faultCode) {
        return new Fault(faultCode, starts.get(next));
    }

    private int number(int least, int most) {
        if (!token().matches("[0-9]{1,4}")) throw fault(1);
        int v = Integer.parseInt(token());
        if (v < least || v > most) throw fault(2);
        next++;
        return v;
    }

    private int speed() {
        if (!token().equals("-")) return number(0, 9);
        next++;
        return -number(0, 9);
    }

    private int option(String word, int least, int most, int otherwise) {
        if (!token().equals(word)) return otherwise;
        next++;
        return number(least, most);
    }

    private World read(String text) {
        World w = new World();
        Map<String, Integer> told = new LinkedHashMap<>();
        cutIntoTokens(text);
        while (!token().isEmpty()) {
            String word = token();
            int which = List.of(SETTINGS).indexOf(word);
            if (word.equals("kite")) {
                if (w.kites.size() == 10) throw fault(4);
                next++;
                String name = token();
                if (!name.matches("[a-z]{1,6}") || QUOTED.contains(name)) throw fault(1);
                if (w.names.contains(name)) throw fault(3);
                next++;
                int x = number(0, 199), y = number(0, 199);
                int sharp = option("sharp", 0, 9, 1), tough = option("tough", 1, 99, 20), out = option("out", 1, 400, 10);
                w.names.add(name);
                w.kites.add(new int[] {DOWN, x, y, 0, x, y, out, 0, sharp, tough, 0, 0, NONE, NONE});
            } else if (word.equals("wind")) {
                int n = w.winds.size();
                if (n == 4) throw fault(4);
                next++;
                int lowest = n == 0 ? number(0, 0) : number(w.winds.get(n - 1)[0] + 1, 300);
                int sx = speed(), sy = speed();
                w.winds.add(new int[] {lowest, sx, sy});
            } else if (which >= 0) {
                if (told.put(word, 1) != null) throw fault(3);
                next++;
                w.settings[which] = number(LEAST[which], MOST[which]);
            } else {
                throw fault(1);
            }
            if (!token().equals(";")) throw fault(1);
            next++;
        }
        if (w.winds.isEmpty()) w.winds.add(new int[] {0, 3, 0});
        return w;
    }

    public int parse() {
        String text = buffer;
        buffer = "";
        try {
            World w = read(text);
            now = w;
            kept = null;
            before.clear();
            code = 0;
            offset = NONE;
            return w.kites.size();
        } catch (Fault f) {
            code = f.code;
            offset = f.offset;
            return NONE;
        }
    }

    public int errorCode() {
        return code;
    }

    public int errorOffset() {
        return offset;
    }

    // ---- what there is

    private List<int[]> latest() {
        return now.events.subList(Math.max(0, now.events.size() - 12), now.events.size());
    }

    private int withState(int state) {
        return (int) now.kites.stream().filter(k -> k[STATE] == state).count();
    }

    public int count(int what) {
        int cross = 0, rub = 0;
        for (int i = 0; i < now.kites.size(); i++) {
            for (int j = 0; j < i; j++) {
                if (now.cross(i, j)) cross++;
                if (now.rub(i, j)) rub++;
            }
        }
        int[] all = {now.kites.size(), now.winds.size(), now.time, withState(0), withState(1), withState(2), withState(3), withState(4),
            latest().size(), now.cuts, cross, rub, before.size()};
        return what < 0 || what >= all.length ? NONE : all[what];
    }

    public int setting(int what) {
        return what < 0 || what > 5 ? NONE : now.settings[what];
    }

    public int find() {
        String name = buffer;
        buffer = "";
        return now.names.indexOf(name);
    }

    public int kite(int kite, int what) {
        int[] k = at(kite);
        within(what, 0, 13);
        return k[what];
    }

    public int wind(int wind, int what) {
        bounds(wind >= 0 && wind < now.winds.size());
        within(what, 0, 3);
        return what == 3 ? World.force(now.winds.get(wind)) : now.winds.get(wind)[what];
    }

    public int windAt(int height) {
        within(height, 0, 300);
        return now.windNumber(height);
    }

    public int span(int kite) {
        return at(kite)[STATE] == FLIES ? World.spanOf(at(kite)) : NONE;
    }

    public int slack(int kite) {
        state(at(kite)[STATE] == FLIES);
        return World.slackOf(at(kite));
    }

    public boolean crosses(int kite, int other) {
        at(kite);
        at(other);
        return now.cross(kite, other);
    }

    public int crossing(int kite, int other, int what) {
        at(kite);
        at(other);
        within(what, 0, 4);
        if (!now.cross(kite, other)) return NONE;
        int[] m = now.meeting(kite, other);
        return what == 4 ? Math.abs(m[2] - m[3]) : m[what];
    }

    private List<Integer> rubbing(int kite) {
        at(kite);
        List<Integer> list = new ArrayList<>();
        for (int j = 0; j < now.kites.size(); j++) {
            if (now.rub(kite, j)) list.add(j);
        }
        return list;
    }

    public int rubs(int kite) {
        return rubbing(kite).stream().mapToInt(j -> 1 << j).sum();
    }

    public int wearNow(int kite) {
        return rubbing(kite).stream().mapToInt(j -> now.brings(j)).sum();
    }

    public int event(int event, int what) {
        bounds(event >= 0 && event < latest().size());
        within(what, 0, 5);
        return latest().get(event)[what];
    }

    private interface Worth {
        int of(int kite);
    }

    /** The smallest number of the kites with the greatest worth, of those that are wanted. */
    private int best(boolean onlyFlying, int not, Worth worth) {
        int best = NONE;
        for (int i = 0; i < now.kites.size(); i++) {
            if (i == not || onlyFlying && now.kites.get(i)[STATE] != FLIES) continue;
            if (best == NONE || worth.of(i) > worth.of(best)) best = i;
        }
        return best;
    }

    public int highest() {
        return best(true, NONE, i -> now.kites.get(i)[H]);
    }

    public int tautest() {
        return best(true, NONE, i -> -World.slackOf(now.kites.get(i)));
    }

    public int leader() {
        int best = best(false, NONE, i -> now.kites.get(i)[POINTS]);
        return best == NONE || now.kites.get(best)[POINTS] == 0 ? NONE : best;
    }

    public int picker(int x, int y, int not) {
        within(x, 0, 199);
        within(y, 0, 199);
        within(not, -1, now.kites.size() - 1);
        return now.pickerOf(x, y, not);
    }

    public int gap(int kite, int other) {
        int[] a = at(kite), b = at(other);
        long dx = a[X] - b[X], dy = a[Y] - b[Y], dh = a[H] - b[H];
        return Math.min(400, World.root(dx * dx + dy * dy + dh * dh));
    }

    public int nearest(int kite) {
        int[] a = at(kite);
        return best(true, kite, i -> {
            int[] b = now.kites.get(i);
            return -((a[X] - b[X]) * (a[X] - b[X]) + (a[Y] - b[Y]) * (a[Y] - b[Y]));
        });
    }

    public int upwind(int kite) {
        int[] k = at(kite);
        state(k[STATE] == FLIES);
        int[] w = now.winds.get(now.windNumber(k[H]));
        return -Integer.signum((k[X] - k[FX]) * w[1] + (k[Y] - k[FY]) * w[2]);
    }

    public int threat(int kite) {
        int worst = NONE;
        for (int j : rubbing(kite)) {
            if (worst == NONE || now.brings(j) > now.brings(worst)) worst = j;
        }
        return worst;
    }

    public int sum(int what) {
        within(what, 0, 13);
        return now.kites.stream().mapToInt(k -> k[what]).sum();
    }

    public int rank(int kite) {
        at(kite);
        List<Integer> order = new ArrayList<>();
        for (int i = 0; i < now.kites.size(); i++) order.add(i);
        order.sort((a, b) -> now.kites.get(b)[POINTS] - now.kites.get(a)[POINTS]);
        return order.indexOf(kite);
    }

    public int inBox(int x, int y, int toX, int toY) {
        for (int v : new int[] {x, y, toX, toY}) within(v, 0, 199);
        argument(x <= toX && y <= toY);
        int set = 0;
        for (int i = 0; i < now.kites.size(); i++) {
            int[] k = now.kites.get(i);
            if (k[X] >= x && k[X] <= toX && k[Y] >= y && k[Y] <= toY) set += 1 << i;
        }
        return set;
    }

    public int spread() {
        int[] heights = now.kites.stream().filter(k -> k[STATE] == FLIES).mapToInt(k -> k[H]).sorted().toArray();
        return heights.length == 0 ? NONE : heights[heights.length - 1] - heights[0];
    }

    public double meanHeight() {
        int[] heights = now.kites.stream().filter(k -> k[STATE] == FLIES).mapToInt(k -> k[H]).toArray();
        int total = 0;
        for (int h : heights) total += h;
        return heights.length == 0 ? 0.0 : (double) total / (double) heights.length;
    }

    public float left(int kite) {
        int[] k = at(kite);
        return (float) Math.max(0, k[TOUGH] - k[WEAR]) / (float) k[TOUGH];
    }

    // ---- forecasts: each asked tick anew from the present

    public int kiteIn(int kite, int what, int ticks) {
        at(kite);
        within(what, 0, 13);
        within(ticks, 1, 100);
        return now.behind(ticks).kites.get(kite)[what];
    }

    public int cutIn(int kite, int ticks) {
        int[] k = at(kite);
        within(ticks, 1, 100);
        if (k[STATE] > DOWN) return 0;
        for (int t = 1; t <= ticks; t++) {
            World w = now.behind(t);
            for (int e = now.events.size(); e < w.events.size(); e++) {
                if (w.events.get(e)[1] == 1 && w.events.get(e)[2] == kite) return t;
            }
        }
        return NONE;
    }

    public int crossIn(int kite, int other, int ticks) {
        at(kite);
        at(other);
        within(ticks, 1, 100);
        for (int t = 0; t <= ticks; t++) {
            if (now.behind(t).cross(kite, other)) return t;
        }
        return NONE;
    }

    public int cutsIn(int ticks) {
        within(ticks, 1, 100);
        return now.behind(ticks).cuts - now.cuts;
    }

    public int landsIn(int kite, int ticks) {
        at(kite);
        within(ticks, 1, 100);
        for (int t = 0; t <= ticks; t++) {
            int s = now.behind(t).kites.get(kite)[STATE];
            if (s == DOWN || s == FELL || s == PICKED) return t;
        }
        return NONE;
    }

    public int duel(int kite, int other, int ticks) {
        at(kite);
        at(other);
        within(ticks, 1, 100);
        for (int t = 0; t <= ticks; t++) {
            World w = now.behind(t);
            boolean a = w.kites.get(kite)[STATE] >= DRIFTS, b = w.kites.get(other)[STATE] >= DRIFTS;
            if (a || b) return a && b ? NONE : a ? kite : other;
        }
        return NONE;
    }

    private int trial(int kite, int ticks, int what, int sign) {
        at(kite);
        within(ticks, 1, 50);
        int best = 0, worth = Integer.MIN_VALUE;
        for (int r = 9; r >= -9; r--) {
            World w = now.copy();
            w.kites.get(kite)[REEL] = r;
            int v = sign * w.behind(ticks).kites.get(kite)[what];
            if (v >= worth) {
                worth = v;
                best = r;
            }
        }
        return best;
    }

    public int safeReel(int kite, int ticks) {
        return trial(kite, ticks, WEAR, -1);
    }

    public int bestReel(int kite, int ticks) {
        return trial(kite, ticks, H, 1);
    }

    public int boldReel(int kite, int ticks) {
        return trial(kite, ticks, POINTS, 1);
    }

    // ---- Changes

    public int run(int ticks) {
        within(ticks, 1, 200);
        state(now.time + ticks <= 5000);
        change();
        int had = now.cuts;
        now = now.behind(ticks);
        return now.cuts - had;
    }

    public int launch(int kite) {
        int[] k = at(kite);
        state(k[STATE] == DOWN);
        change();
        k[STATE] = FLIES;
        k[X] = k[FX];
        k[Y] = k[FY];
        k[H] = Math.min(20, k[OUT]);
        now.tell(4, kite, NONE, k[X], k[Y]);
        return k[H];
    }

    private int put(int[] k, int what, int value) {
        change();
        int had = k[what];
        k[what] = value;
        return had;
    }

    public int reel(int kite, int reel) {
        int[] k = at(kite);
        within(reel, -9, 9);
        return put(k, REEL, reel);
    }

    public int letGo(int kite) {
        int[] k = at(kite);
        state(k[STATE] == FLIES);
        put(k, STATE, DRIFTS);
        return k[H];
    }

    public int pull(int kite, int length) {
        int[] k = at(kite);
        within(length, 1, 400);
        state(k[STATE] <= DOWN);
        return put(k, OUT, length);
    }

    public int walk(int kite, int x, int y) {
        int[] k = at(kite);
        within(x, 0, 199);
        within(y, 0, 199);
        int way = Math.abs(x - k[FX]) + Math.abs(y - k[FY]);
        change();
        k[FX] = x;
        k[FY] = y;
        if (k[STATE] == DOWN) {
            k[X] = x;
            k[Y] = y;
        }
        return way;
    }

    public int restring(int kite, int sharp, int tough) {
        int[] k = at(kite);
        within(sharp, 0, 9);
        within(tough, 1, 99);
        state(k[STATE] == DOWN || k[STATE] == PICKED);
        int had = put(k, WEAR, 0);
        k[SHARP] = sharp;
        k[TOUGH] = tough;
        k[OUT] = 10;
        k[PICKER] = NONE;
        k[CUTTER] = NONE;
        if (k[STATE] == PICKED) {
            k[STATE] = DOWN;
            k[X] = k[FX];
            k[Y] = k[FY];
            k[H] = 0;
        }
        return had;
    }

    public int setWind(int wind, int x, int y) {
        bounds(wind >= 0 && wind < now.winds.size());
        within(x, -9, 9);
        within(y, -9, 9);
        int[] w = now.winds.get(wind);
        int had = World.force(w);
        change();
        w[1] = x;
        w[2] = y;
        return had;
    }

    public int set(int what, int value) {
        within(what, 0, 5);
        within(value, LEAST[what], MOST[what]);
        return put(now.settings, what, value);
    }

    public int undo() {
        state(!before.isEmpty());
        now = before.removeLast();
        return before.size();
    }

    // ---- output and state

    private int print(List<String> parts) {
        output = parts.isEmpty() ? "-" : String.join(" ", parts);
        return output.length();
    }

    public int printKite(int kite) {
        int[] k = at(kite);
        String[] words = {"flies", "down", "drifts", "fell", "picked"};
        return print(List.of(now.names.get(kite), k[X] + "," + k[Y] + "," + k[H], words[k[STATE]]));
    }

    public int printPairs() {
        List<String> parts = new ArrayList<>();
        for (int i = 0; i < now.kites.size(); i++) {
            for (int j = i + 1; j < now.kites.size(); j++) {
                if (now.cross(i, j)) parts.add(now.names.get(i) + (now.rub(i, j) ? "*" : "x") + now.names.get(j));
            }
        }
        return print(parts);
    }

    public int printEvents() {
        List<String> parts = new ArrayList<>();
        for (int[] e : latest()) {
            parts.add(e[0] + "" + "dcfpl".charAt(e[1]) + e[2] + (e[3] == NONE ? "" : "/" + e[3]));
        }
        return print(parts);
    }

    public int outputByte(int index) {
        return index < 0 || index >= output.length() ? NONE : output.charAt(index);
    }

    public int saveState() {
        kept = now.copy();
        return now.time;
    }

    public int restoreState() {
        state(kept != null);
        now = kept.copy();
        before.clear();
        return now.time;
    }

    /** The states in which all kites are, for a test that wants to know what it reached. */
    Set<Integer> statesReached() {
        Set<Integer> set = new HashSet<>();
        for (int[] k : now.kites) set.add(k[STATE]);
        return set;
    }
}
