/**
 * Kites over a field: their winds, lines, flyers and quarrels, tick by tick.
 * ../shared/DOC.md tells every call as a numbered promise.
 */
public final class KiteQuarrel {
    public static final int NONE = -1;
    public static final int FLIES = 0, DOWN = 1, DRIFTS = 2, FELL = 3, PICKED = 4;
    public static final int WENT_DOWN = 0, WAS_CUT = 1, HAS_FALLEN = 2, WAS_PICKED = 3, WAS_LAUNCHED = 4;

    private static final int MOST_KITES = 10;
    private static final int MOST_WINDS = 4;
    private static final int MOST_EVENTS = 12;
    private static final int MOST_CHANGES = 10;
    private static final int MOST_BYTES = 700;
    private static final int LAST_PLACE = 199;
    private static final int TOP = 300;
    private static final int MOST_OUT = 400;
    private static final int LAST_TIME = 5000;
    private static final int MOST_REEL = 9;
    private static final int MOST_SPEED = 9;
    private static final int MOST_SHARP = 9;
    private static final int MOST_TOUGH = 99;
    private static final int NEW_OUT = 10;
    private static final int LAUNCH_HEIGHT = 20;
    private static final int MOST_FORECAST = 100;
    private static final int MOST_TRIAL = 50;
    private static final int MOST_RUN = 200;
    private static final int MOST_GAP = 400;
    private static final int NAME_LENGTH = 6;

    private static final int SLACK = 0, RISE = 1, CLIMB = 2, SINK = 3, REACH = 4, PICK = 5;
    private static final int SETTINGS = 6;
    private static final int[] SETTING_LEAST = {0, 0, 0, 1, 0, 0};
    private static final int[] SETTING_MOST = {99, 9, 9, 20, 50, 50};
    private static final int[] SETTING_FIRST = {5, 2, 3, 4, 3, 10};

    private static final int STATE = 0, HEIGHT = 3, WEAR = 10, POINTS = 11;
    private static final int LAST_NUMBER = 13;

    private final Input input = new Input();
    private final Output output = new Output();
    private final Setup setup = new Setup(input);
    private final Names names = new Names();
    private final Field field = new Field();
    private final Field forecast = new Field();
    private final Field saved = new Field();
    private final History history = new History();
    private boolean isSaved;
    private int latestCode;
    private int latestOffset = NONE;

    public KiteQuarrel() {
    }

    // ---- the setup text

    public int feed(int a, int b, int c, int d, int e) {
        if (input.length + 20 > MOST_BYTES) {
            return NONE;
        }
        input.addFour(a);
        input.addFour(b);
        input.addFour(c);
        input.addFour(d);
        input.addFour(e);
        return input.length;
    }

    public boolean truncate(int length) {
        if (length < 0 || length > input.length) {
            return false;
        }
        input.length = length;
        return true;
    }

    public int parse() {
        boolean good = setup.readText();
        input.length = 0;
        latestCode = setup.code;
        latestOffset = setup.offset;
        if (!good) {
            return NONE;
        }
        field.copyFrom(setup.field);
        names.copyFrom(setup.names);
        history.clear();
        isSaved = false;
        return field.kiteCount;
    }

    public int errorCode() {
        return latestCode;
    }

    public int errorOffset() {
        return latestOffset;
    }

    // ---- what there is

    public int count(int what) {
        if (what >= 3 && what <= 7) {
            return field.kitesInState(what - 3);
        }
        switch (what) {
            case 0: return field.kiteCount;
            case 1: return field.windCount;
            case 2: return field.time;
            case 8: return field.eventCount;
            case 9: return field.cuts;
            case 10: return field.pairs(false);
            case 11: return field.pairs(true);
            case 12: return history.size;
            default: return NONE;
        }
    }

    public int setting(int what) {
        return isIn(what, 0, SETTINGS - 1) ? field.settings[what] : NONE;
    }

    public int find() {
        int kite = names.numberOf(input.bytes, 0, input.length);
        input.length = 0;
        return kite;
    }

    public int kite(int kite, int what) throws IndexOutOfBoundsException, IllegalArgumentException {
        checkKite(kite);
        checkRange(what, 0, LAST_NUMBER);
        return field.kites[kite].number(what);
    }

    public int wind(int wind, int what) throws IndexOutOfBoundsException, IllegalArgumentException {
        checkWind(wind);
        checkRange(what, 0, 3);
        return field.winds[wind].number(what);
    }

    public int windAt(int height) throws IllegalArgumentException {
        checkRange(height, 0, TOP);
        return field.windNumberAt(height);
    }

    public int span(int kite) throws IndexOutOfBoundsException {
        checkKite(kite);
        Kite k = field.kites[kite];
        return k.state == FLIES ? k.spanNow() : NONE;
    }

    public int slack(int kite) throws IndexOutOfBoundsException, IllegalStateException {
        checkKite(kite);
        Kite k = field.kites[kite];
        checkState(k.state == FLIES);
        return k.slackNow();
    }

    public boolean crosses(int kite, int other) throws IndexOutOfBoundsException {
        checkKite(kite);
        checkKite(other);
        return field.linesCross(kite, other);
    }

    public int crossing(int kite, int other, int what) throws IndexOutOfBoundsException, IllegalArgumentException {
        checkKite(kite);
        checkKite(other);
        checkRange(what, 0, 4);
        if (!field.linesCross(kite, other)) {
            return NONE;
        }
        Crossing place = field.crossing;
        switch (what) {
            case 0: return place.x;
            case 1: return place.y;
            case 2: return kite < other ? place.firstHeight : place.secondHeight;
            case 3: return kite < other ? place.secondHeight : place.firstHeight;
            default: return place.heightsApart();
        }
    }

    public int rubs(int kite) throws IndexOutOfBoundsException {
        checkKite(kite);
        int set = 0;
        for (int other = 0; other < field.kiteCount; other++) {
            if (field.linesRub(kite, other)) {
                set |= 1 << other;
            }
        }
        return set;
    }

    public int wearNow(int kite) throws IndexOutOfBoundsException {
        checkKite(kite);
        int wear = 0;
        for (int other = 0; other < field.kiteCount; other++) {
            if (field.linesRub(kite, other)) {
                wear += field.kites[other].wearBrought();
            }
        }
        return wear;
    }

    public int event(int event, int what) throws IndexOutOfBoundsException, IllegalArgumentException {
        if (!isIn(event, 0, field.eventCount - 1)) {
            throw new IndexOutOfBoundsException("no such event");
        }
        checkRange(what, 0, 5);
        return field.eventAt(event).number(what);
    }

    public int highest() {
        int best = NONE;
        for (int i = 0; i < field.kiteCount; i++) {
            Kite k = field.kites[i];
            if (k.state == FLIES && (best == NONE || k.height > field.kites[best].height)) {
                best = i;
            }
        }
        return best;
    }

    public int tautest() {
        int best = NONE;
        int least = 0;
        for (int i = 0; i < field.kiteCount; i++) {
            Kite k = field.kites[i];
            if (k.state == FLIES) {
                int slackOfKite = k.slackNow();
                if (best == NONE || slackOfKite < least) {
                    best = i;
                    least = slackOfKite;
                }
            }
        }
        return best;
    }

    public int leader() {
        int best = NONE;
        int most = 0;
        for (int i = 0; i < field.kiteCount; i++) {
            if (field.kites[i].points > most) {
                best = i;
                most = field.kites[i].points;
            }
        }
        return best;
    }

    public int picker(int x, int y, int not) throws IllegalArgumentException {
        checkRange(x, 0, LAST_PLACE);
        checkRange(y, 0, LAST_PLACE);
        checkRange(not, NONE, field.kiteCount - 1);
        return field.pickerAt(x, y, not);
    }

    public int gap(int kite, int other) throws IndexOutOfBoundsException {
        checkKite(kite);
        checkKite(other);
        Kite to = field.kites[other];
        return Math.min(MOST_GAP, field.kites[kite].distanceTo(to.x, to.y, to.height));
    }

    public int nearest(int kite) throws IndexOutOfBoundsException {
        checkKite(kite);
        Kite from = field.kites[kite];
        int best = NONE;
        int least = 0;
        for (int i = 0; i < field.kiteCount; i++) {
            Kite k = field.kites[i];
            if (i != kite && k.state == FLIES) {
                int offX = k.x - from.x;
                int offY = k.y - from.y;
                int squares = offX * offX + offY * offY;
                if (best == NONE || squares < least) {
                    best = i;
                    least = squares;
                }
            }
        }
        return best;
    }

    public int upwind(int kite) throws IndexOutOfBoundsException, IllegalStateException {
        checkKite(kite);
        Kite k = field.kites[kite];
        checkState(k.state == FLIES);
        Wind w = field.winds[field.windNumberAt(k.height)];
        int along = (k.x - k.flyerX) * w.x + (k.y - k.flyerY) * w.y;
        return along < 0 ? 1 : along == 0 ? 0 : -1;
    }

    public int threat(int kite) throws IndexOutOfBoundsException {
        checkKite(kite);
        int worst = NONE;
        int most = 0;
        for (int other = 0; other < field.kiteCount; other++) {
            if (field.linesRub(kite, other)) {
                int wear = field.kites[other].wearBrought();
                if (worst == NONE || wear > most) {
                    worst = other;
                    most = wear;
                }
            }
        }
        return worst;
    }

    public int sum(int what) throws IllegalArgumentException {
        checkRange(what, 0, LAST_NUMBER);
        int total = 0;
        for (int i = 0; i < field.kiteCount; i++) {
            total += field.kites[i].number(what);
        }
        return total;
    }

    public int rank(int kite) throws IndexOutOfBoundsException {
        checkKite(kite);
        int points = field.kites[kite].points;
        int ahead = 0;
        for (int i = 0; i < field.kiteCount; i++) {
            int others = field.kites[i].points;
            if (others > points || (others == points && i < kite)) {
                ahead++;
            }
        }
        return ahead;
    }

    public int inBox(int x, int y, int toX, int toY) throws IllegalArgumentException {
        checkRange(x, 0, LAST_PLACE);
        checkRange(y, 0, LAST_PLACE);
        checkRange(toX, x, LAST_PLACE);
        checkRange(toY, y, LAST_PLACE);
        int set = 0;
        for (int i = 0; i < field.kiteCount; i++) {
            if (isIn(field.kites[i].x, x, toX) && isIn(field.kites[i].y, y, toY)) {
                set |= 1 << i;
            }
        }
        return set;
    }

    public int spread() {
        int most = NONE;
        int least = TOP;
        for (int i = 0; i < field.kiteCount; i++) {
            Kite k = field.kites[i];
            if (k.state == FLIES) {
                most = Math.max(most, k.height);
                least = Math.min(least, k.height);
            }
        }
        return most == NONE ? NONE : most - least;
    }

    public double meanHeight() {
        int flying = 0;
        int total = 0;
        for (int i = 0; i < field.kiteCount; i++) {
            if (field.kites[i].state == FLIES) {
                flying++;
                total += field.kites[i].height;
            }
        }
        return flying == 0 ? 0.0 : (double) total / (double) flying;
    }

    public float left(int kite) throws IndexOutOfBoundsException {
        checkKite(kite);
        Kite k = field.kites[kite];
        return k.tough == 0 ? 0.0f : (float) Math.max(0, k.tough - k.wear) / (float) k.tough;
    }

    // ---- forecasts

    public int kiteIn(int kite, int what, int ticks) throws IndexOutOfBoundsException, IllegalArgumentException {
        checkKite(kite);
        checkRange(what, 0, LAST_NUMBER);
        checkRange(ticks, 1, MOST_FORECAST);
        forecast.copyFrom(field);
        forecast.passTicks(ticks);
        return forecast.kites[kite].number(what);
    }

    public int cutIn(int kite, int ticks) throws IndexOutOfBoundsException, IllegalArgumentException {
        checkKite(kite);
        checkRange(ticks, 1, MOST_FORECAST);
        int state = field.kites[kite].state;
        if (state != FLIES && state != DOWN) {
            return 0;
        }
        forecast.copyFrom(field);
        for (int n = 1; n <= ticks && forecast.time < LAST_TIME; n++) {
            forecast.tick();
            // without a flyer's call a line that flew drifts only behind its cut
            if (forecast.kites[kite].state == DRIFTS) {
                return n;
            }
        }
        return NONE;
    }

    public int crossIn(int kite, int other, int ticks) throws IndexOutOfBoundsException, IllegalArgumentException {
        checkKite(kite);
        checkKite(other);
        checkRange(ticks, 1, MOST_FORECAST);
        forecast.copyFrom(field);
        for (int n = 0; n <= ticks; n++) {
            if (forecast.linesCross(kite, other)) {
                return n;
            }
            forecast.passTicks(1);
        }
        return NONE;
    }

    public int cutsIn(int ticks) throws IllegalArgumentException {
        checkRange(ticks, 1, MOST_FORECAST);
        forecast.copyFrom(field);
        forecast.passTicks(ticks);
        return forecast.cuts - field.cuts;
    }

    public int landsIn(int kite, int ticks) throws IndexOutOfBoundsException, IllegalArgumentException {
        checkKite(kite);
        checkRange(ticks, 1, MOST_FORECAST);
        forecast.copyFrom(field);
        for (int n = 0; n <= ticks; n++) {
            int state = forecast.kites[kite].state;
            if (state != FLIES && state != DRIFTS) {
                return n;
            }
            forecast.passTicks(1);
        }
        return NONE;
    }

    public int duel(int kite, int other, int ticks) throws IndexOutOfBoundsException, IllegalArgumentException {
        checkKite(kite);
        checkKite(other);
        checkRange(ticks, 1, MOST_FORECAST);
        forecast.copyFrom(field);
        for (int n = 0; n <= ticks; n++) {
            boolean kiteLost = forecast.kites[kite].isLost();
            boolean otherLost = forecast.kites[other].isLost();
            if (kiteLost && otherLost) {
                return NONE;
            }
            if (kiteLost || otherLost) {
                return kiteLost ? kite : other;
            }
            forecast.passTicks(1);
        }
        return NONE;
    }

    public int safeReel(int kite, int ticks) throws IndexOutOfBoundsException, IllegalArgumentException {
        checkKite(kite);
        checkRange(ticks, 1, MOST_TRIAL);
        return reelFor(kite, ticks, WEAR, -1);
    }

    public int bestReel(int kite, int ticks) throws IndexOutOfBoundsException, IllegalArgumentException {
        checkKite(kite);
        checkRange(ticks, 1, MOST_TRIAL);
        return reelFor(kite, ticks, HEIGHT, 1);
    }

    public int boldReel(int kite, int ticks) throws IndexOutOfBoundsException, IllegalArgumentException {
        checkKite(kite);
        checkRange(ticks, 1, MOST_TRIAL);
        return reelFor(kite, ticks, POINTS, 1);
    }

    // ---- Changes

    public int run(int ticks) throws IllegalArgumentException, IllegalStateException {
        checkRange(ticks, 1, MOST_RUN);
        checkState(field.time + ticks <= LAST_TIME);
        history.remember(field);
        int cutsBefore = field.cuts;
        field.passTicks(ticks);
        return field.cuts - cutsBefore;
    }

    public int launch(int kite) throws IndexOutOfBoundsException, IllegalStateException {
        checkKite(kite);
        Kite k = field.kites[kite];
        checkState(k.state == DOWN);
        history.remember(field);
        k.state = FLIES;
        k.x = k.flyerX;
        k.y = k.flyerY;
        k.height = Math.min(LAUNCH_HEIGHT, k.out);
        field.tellOfKite(WAS_LAUNCHED, kite, NONE);
        return k.height;
    }

    public int reel(int kite, int reel) throws IndexOutOfBoundsException, IllegalArgumentException {
        checkKite(kite);
        checkRange(reel, -MOST_REEL, MOST_REEL);
        history.remember(field);
        int before = field.kites[kite].reel;
        field.kites[kite].reel = reel;
        return before;
    }

    public int letGo(int kite) throws IndexOutOfBoundsException, IllegalStateException {
        checkKite(kite);
        Kite k = field.kites[kite];
        checkState(k.state == FLIES);
        history.remember(field);
        k.state = DRIFTS;
        return k.height;
    }

    public int pull(int kite, int length) throws IndexOutOfBoundsException, IllegalArgumentException, IllegalStateException {
        checkKite(kite);
        checkRange(length, 1, MOST_OUT);
        Kite k = field.kites[kite];
        checkState(k.state == FLIES || k.state == DOWN);
        history.remember(field);
        int before = k.out;
        k.out = length;
        return before;
    }

    public int walk(int kite, int x, int y) throws IndexOutOfBoundsException, IllegalArgumentException {
        checkKite(kite);
        checkRange(x, 0, LAST_PLACE);
        checkRange(y, 0, LAST_PLACE);
        history.remember(field);
        Kite k = field.kites[kite];
        int way = Math.abs(x - k.flyerX) + Math.abs(y - k.flyerY);
        k.flyerX = x;
        k.flyerY = y;
        if (k.state == DOWN) {
            k.x = x;
            k.y = y;
        }
        return way;
    }

    public int restring(int kite, int sharp, int tough) throws IndexOutOfBoundsException, IllegalArgumentException, IllegalStateException {
        checkKite(kite);
        checkRange(sharp, 0, MOST_SHARP);
        checkRange(tough, 1, MOST_TOUGH);
        Kite k = field.kites[kite];
        checkState(k.state == DOWN || k.state == PICKED);
        history.remember(field);
        int wearBefore = k.wear;
        k.takeNewLine(sharp, tough);
        return wearBefore;
    }

    public int setWind(int wind, int x, int y) throws IndexOutOfBoundsException, IllegalArgumentException {
        checkWind(wind);
        checkRange(x, -MOST_SPEED, MOST_SPEED);
        checkRange(y, -MOST_SPEED, MOST_SPEED);
        history.remember(field);
        int forceBefore = field.winds[wind].force();
        field.winds[wind].x = x;
        field.winds[wind].y = y;
        return forceBefore;
    }

    public int set(int what, int value) throws IllegalArgumentException {
        checkRange(what, 0, SETTINGS - 1);
        checkRange(value, SETTING_LEAST[what], SETTING_MOST[what]);
        history.remember(field);
        int before = field.settings[what];
        field.settings[what] = value;
        return before;
    }

    public int undo() throws IllegalStateException {
        checkState(history.size > 0);
        history.takeBack(field);
        return history.size;
    }

    // ---- output and state

    public int printKite(int kite) throws IndexOutOfBoundsException {
        checkKite(kite);
        Kite k = field.kites[kite];
        output.length = 0;
        output.addName(names, kite);
        output.addByte(' ');
        output.addNumber(k.x);
        output.addByte(',');
        output.addNumber(k.y);
        output.addByte(',');
        output.addNumber(k.height);
        output.addByte(' ');
        output.addText(stateWord(k.state));
        return output.length;
    }

    public int printPairs() {
        output.length = 0;
        for (int i = 0; i < field.kiteCount; i++) {
            for (int j = i + 1; j < field.kiteCount; j++) {
                if (field.linesCross(i, j)) {
                    output.addGap();
                    output.addName(names, i);
                    output.addByte(field.linesRub(i, j) ? '*' : 'x');
                    output.addName(names, j);
                }
            }
        }
        output.addHyphenIfEmpty();
        return output.length;
    }

    public int printEvents() {
        output.length = 0;
        for (int i = 0; i < field.eventCount; i++) {
            Event e = field.eventAt(i);
            output.addGap();
            output.addNumber(e.time);
            output.addByte(kindLetter(e.kind));
            output.addNumber(e.kite);
            if (e.other != NONE) {
                output.addByte('/');
                output.addNumber(e.other);
            }
        }
        output.addHyphenIfEmpty();
        return output.length;
    }

    public int outputByte(int index) {
        return isIn(index, 0, output.length - 1) ? output.bytes[index] : NONE;
    }

    public int saveState() {
        saved.copyFrom(field);
        isSaved = true;
        return field.time;
    }

    public int restoreState() throws IllegalStateException {
        checkState(isSaved);
        field.copyFrom(saved);
        history.clear();
        return field.time;
    }

    // ---- helpers of the calls

    private void checkKite(int kite) {
        if (!isIn(kite, 0, field.kiteCount - 1)) {
            throw new IndexOutOfBoundsException("no such kite");
        }
    }

    private void checkWind(int wind) {
        if (!isIn(wind, 0, field.windCount - 1)) {
            throw new IndexOutOfBoundsException("no such wind");
        }
    }

    private static void checkRange(int value, int least, int most) {
        if (!isIn(value, least, most)) {
            throw new IllegalArgumentException("out of range");
        }
    }

    private static void checkState(boolean allowed) {
        if (!allowed) {
            throw new IllegalStateException("not in this state");
        }
    }

    /** The reel for which a kite's number, times the sign, is greatest behind the ticks. */
    private int reelFor(int kite, int ticks, int what, int sign) {
        int bestReelYet = -MOST_REEL;
        int best = 0;
        for (int trial = -MOST_REEL; trial <= MOST_REEL; trial++) {
            forecast.copyFrom(field);
            forecast.kites[kite].reel = trial;
            for (int n = 0; n < ticks && forecast.time < LAST_TIME; n++) {
                forecast.tick();
            }
            int worth = sign * forecast.kites[kite].number(what);
            if (trial == -MOST_REEL || worth > best) {
                bestReelYet = trial;
                best = worth;
            }
        }
        return bestReelYet;
    }

    private static String stateWord(int state) {
        switch (state) {
            case FLIES: return "flies";
            case DOWN: return "down";
            case DRIFTS: return "drifts";
            case FELL: return "fell";
            default: return "picked";
        }
    }

    private static char kindLetter(int kind) {
        switch (kind) {
            case WENT_DOWN: return 'd';
            case WAS_CUT: return 'c';
            case HAS_FALLEN: return 'f';
            case WAS_PICKED: return 'p';
            default: return 'l';
        }
    }

    private static boolean isIn(int value, int least, int most) {
        return value >= least && value <= most;
    }

    private static int bounded(int value, int least, int most) {
        return Math.max(least, Math.min(most, value));
    }

    // ---- a kite with its flyer and line

    private static final class Kite {
        // far above the 698 steps from one corner of the field to the other and down
        private static final int PULL_STEPS = 1000;

        int state, x, y, height;
        int flyerX, flyerY;
        int out, reel, sharp, tough, wear;
        int points, pickedBy, cutBy;
        // of part b of the present tick alone
        int mostWear, mostWearBy;

        void copyFrom(Kite k) {
            state = k.state;
            x = k.x;
            y = k.y;
            height = k.height;
            flyerX = k.flyerX;
            flyerY = k.flyerY;
            out = k.out;
            reel = k.reel;
            sharp = k.sharp;
            tough = k.tough;
            wear = k.wear;
            points = k.points;
            pickedBy = k.pickedBy;
            cutBy = k.cutBy;
        }

        void startAt(int placeX, int placeY) {
            flyerX = placeX;
            flyerY = placeY;
            goDownAtFlyer();
            reel = 0;
            sharp = 1;
            tough = 20;
            out = NEW_OUT;
            wear = 0;
            points = 0;
            pickedBy = NONE;
            cutBy = NONE;
        }

        void takeNewLine(int newSharp, int newTough) {
            sharp = newSharp;
            tough = newTough;
            wear = 0;
            out = NEW_OUT;
            pickedBy = NONE;
            cutBy = NONE;
            if (state == PICKED) {
                goDownAtFlyer();
            }
        }

        private void goDownAtFlyer() {
            state = DOWN;
            x = flyerX;
            y = flyerY;
            height = 0;
        }

        int number(int what) {
            switch (what) {
                case STATE: return state;
                case 1: return x;
                case 2: return y;
                case HEIGHT: return height;
                case 4: return flyerX;
                case 5: return flyerY;
                case 6: return out;
                case 7: return reel;
                case 8: return sharp;
                case 9: return tough;
                case WEAR: return wear;
                case POINTS: return points;
                case 12: return pickedBy;
                default: return cutBy;
            }
        }

        boolean isLost() {
            return state == DRIFTS || state == FELL || state == PICKED;
        }

        int distanceTo(int toX, int toY, int toHeight) {
            int offX = toX - x;
            int offY = toY - y;
            int offHeight = toHeight - height;
            int squares = offX * offX + offY * offY + offHeight * offHeight;
            int root = 0;
            // 412 squared is above any sum of squares, so the root has nine bits
            for (int bit = 256; bit > 0; bit >>= 1) {
                if ((root + bit) * (root + bit) <= squares) {
                    root += bit;
                }
            }
            return root;
        }

        int spanNow() {
            return distanceTo(flyerX, flyerY, 0);
        }

        int slackNow() {
            return out - distanceTo(flyerX, flyerY, 0);
        }

        int wearBrought() {
            return sharp * (1 + Math.abs(reel));
        }

        void blow(Wind w) {
            x = bounded(x + w.x, 0, LAST_PLACE);
            y = bounded(y + w.y, 0, LAST_PLACE);
        }

        void pullIn() {
            for (int step = 0; step < PULL_STEPS; step++) {
                int offX = Math.abs(x - flyerX);
                int offY = Math.abs(y - flyerY);
                // the span is above the length out just when its square is not below that of one more
                if (offX * offX + offY * offY + height * height < (out + 1) * (out + 1)) {
                    return;
                }
                if (height >= offX && height >= offY) {
                    height--;
                } else if (offX >= offY) {
                    x += x > flyerX ? -1 : 1;
                } else {
                    y += y > flyerY ? -1 : 1;
                }
            }
        }
    }

    // ---- a wind from its lowest height on

    private static final class Wind {
        int lowest, x, y;

        void copyFrom(Wind w) {
            become(w.lowest, w.x, w.y);
        }

        void become(int newLowest, int newX, int newY) {
            lowest = newLowest;
            x = newX;
            y = newY;
        }

        int force() {
            return Math.max(Math.abs(x), Math.abs(y));
        }

        int number(int what) {
            switch (what) {
                case 0: return lowest;
                case 1: return x;
                case 2: return y;
                default: return force();
            }
        }
    }

    // ---- an event

    private static final class Event {
        int time, kind, kite, other, x, y;

        void copyFrom(Event e) {
            time = e.time;
            kind = e.kind;
            kite = e.kite;
            other = e.other;
            x = e.x;
            y = e.y;
        }

        int number(int what) {
            switch (what) {
                case 0: return time;
                case 1: return kind;
                case 2: return kite;
                case 3: return other;
                case 4: return x;
                default: return y;
            }
        }
    }

    // ---- where two lines cross, seen from above

    private static final class Crossing {
        int x, y, firstHeight, secondHeight;

        /** Tells whether the lines cross and, if so, fills in the place and both heights. */
        boolean isBetween(Kite first, Kite second) {
            int firstX = first.x - first.flyerX;
            int firstY = first.y - first.flyerY;
            int secondX = second.x - second.flyerX;
            int secondY = second.y - second.flyerY;
            int apartX = second.flyerX - first.flyerX;
            int apartY = second.flyerY - first.flyerY;
            int whole = firstX * secondY - firstY * secondX;
            int firstPart = apartX * secondY - apartY * secondX;
            int secondPart = apartX * firstY - apartY * firstX;
            if (whole < 0) {
                whole = -whole;
                firstPart = -firstPart;
                secondPart = -secondPart;
            }
            // parallel lines have the whole 0; an end on the other line has the part 0 or all of the whole
            if (whole == 0 || firstPart <= 0 || firstPart >= whole || secondPart <= 0 || secondPart >= whole) {
                return false;
            }
            x = first.flyerX + Math.floorDiv(firstX * firstPart, whole);
            y = first.flyerY + Math.floorDiv(firstY * firstPart, whole);
            firstHeight = heightOfLine(first.height * firstPart / whole, first.slackNow());
            secondHeight = heightOfLine(second.height * secondPart / whole, second.slackNow());
            return true;
        }

        private static int heightOfLine(int tautHeight, int slackOfLine) {
            return slackOfLine > 0 ? Math.max(0, tautHeight - slackOfLine / 2) : tautHeight;
        }

        int heightsApart() {
            return Math.abs(firstHeight - secondHeight);
        }
    }

    // ---- all that ticks and changes alter, and that can be copied and restored

    private static final class Field {
        final Kite[] kites = new Kite[MOST_KITES];
        final Wind[] winds = new Wind[MOST_WINDS];
        final Event[] events = new Event[MOST_EVENTS];
        final int[] settings = new int[SETTINGS];
        final Crossing crossing = new Crossing();
        int kiteCount, windCount, eventCount, firstEvent, time, cuts;

        Field() {
            for (int i = 0; i < MOST_KITES; i++) {
                kites[i] = new Kite();
            }
            for (int i = 0; i < MOST_WINDS; i++) {
                winds[i] = new Wind();
            }
            for (int i = 0; i < MOST_EVENTS; i++) {
                events[i] = new Event();
            }
            clear();
            addDefaultWind();
        }

        void clear() {
            kiteCount = 0;
            windCount = 0;
            eventCount = 0;
            firstEvent = 0;
            time = 0;
            cuts = 0;
            for (int i = 0; i < SETTINGS; i++) {
                settings[i] = SETTING_FIRST[i];
            }
        }

        void addDefaultWind() {
            winds[0].become(0, 3, 0);
            windCount = 1;
        }

        void copyFrom(Field f) {
            kiteCount = f.kiteCount;
            windCount = f.windCount;
            eventCount = f.eventCount;
            firstEvent = f.firstEvent;
            time = f.time;
            cuts = f.cuts;
            for (int i = 0; i < kiteCount; i++) {
                kites[i].copyFrom(f.kites[i]);
            }
            for (int i = 0; i < windCount; i++) {
                winds[i].copyFrom(f.winds[i]);
            }
            for (int i = 0; i < MOST_EVENTS; i++) {
                events[i].copyFrom(f.events[i]);
            }
            for (int i = 0; i < SETTINGS; i++) {
                settings[i] = f.settings[i];
            }
        }

        int kitesInState(int state) {
            int number = 0;
            for (int i = 0; i < kiteCount; i++) {
                if (kites[i].state == state) {
                    number++;
                }
            }
            return number;
        }

        int windNumberAt(int height) {
            int number = 0;
            for (int i = 1; i < windCount; i++) {
                if (winds[i].lowest <= height) {
                    number = i;
                }
            }
            return number;
        }

        /** Tells whether both fly and their lines cross; then crossing tells of it, by the smaller number first. */
        boolean linesCross(int kite, int other) {
            Kite first = kites[Math.min(kite, other)];
            Kite second = kites[Math.max(kite, other)];
            return first.state == FLIES && second.state == FLIES && crossing.isBetween(first, second);
        }

        boolean linesRub(int kite, int other) {
            return linesCross(kite, other) && crossing.heightsApart() <= settings[REACH];
        }

        int pairs(boolean onlyRubbing) {
            int number = 0;
            for (int i = 0; i < kiteCount; i++) {
                for (int j = i + 1; j < kiteCount; j++) {
                    if (onlyRubbing ? linesRub(i, j) : linesCross(i, j)) {
                        number++;
                    }
                }
            }
            return number;
        }

        int pickerAt(int x, int y, int not) {
            int best = NONE;
            int least = 0;
            for (int i = 0; i < kiteCount; i++) {
                Kite k = kites[i];
                int offX = Math.abs(x - k.flyerX);
                int offY = Math.abs(y - k.flyerY);
                boolean asked = i != not && (k.state == FLIES || k.state == DOWN);
                if (asked && offX <= settings[PICK] && offY <= settings[PICK] && (best == NONE || offX + offY < least)) {
                    best = i;
                    least = offX + offY;
                }
            }
            return best;
        }

        Event eventAt(int event) {
            return events[(firstEvent + event) % MOST_EVENTS];
        }

        void tellOfKite(int kind, int kite, int other) {
            tell(kind, kite, other, kites[kite].x, kites[kite].y);
        }

        private void tell(int kind, int kite, int other, int x, int y) {
            if (eventCount == MOST_EVENTS) {
                firstEvent = (firstEvent + 1) % MOST_EVENTS;
            } else {
                eventCount++;
            }
            Event e = eventAt(eventCount - 1);
            e.time = time;
            e.kind = kind;
            e.kite = kite;
            e.other = other;
            e.x = x;
            e.y = y;
        }

        /** Lets ticks pass, up to the last time. */
        void passTicks(int ticks) {
            for (int n = 0; n < ticks && time < LAST_TIME; n++) {
                tick();
            }
        }

        void tick() {
            int driftedAhead = 0;
            for (int i = 0; i < kiteCount; i++) {
                if (kites[i].state == DRIFTS) {
                    driftedAhead |= 1 << i;
                }
            }
            for (int i = 0; i < kiteCount; i++) {
                if (kites[i].state == FLIES) {
                    fly(i);
                }
            }
            rubAllLines();
            cutWornLines();
            for (int i = 0; i < kiteCount; i++) {
                if ((driftedAhead & 1 << i) != 0) {
                    drift(i);
                }
            }
            pickUpFallenKites();
            time++;
        }

        private void fly(int kite) {
            Kite k = kites[kite];
            Wind w = winds[windNumberAt(k.height)];
            k.out = bounded(k.out + k.reel, 1, MOST_OUT);
            k.blow(w);
            if (k.slackNow() <= settings[SLACK]) {
                int climb = k.reel < 0 ? settings[CLIMB] : 0;
                k.height = Math.min(TOP, k.height + settings[RISE] * w.force() + climb);
            } else {
                k.height = Math.max(0, k.height - settings[SINK]);
            }
            k.pullIn();
            if (k.height == 0) {
                k.state = DOWN;
                tellOfKite(WENT_DOWN, kite, NONE);
            }
        }

        private void rubAllLines() {
            for (int i = 0; i < kiteCount; i++) {
                kites[i].mostWear = 0;
                kites[i].mostWearBy = NONE;
            }
            for (int i = 0; i < kiteCount; i++) {
                for (int j = i + 1; j < kiteCount; j++) {
                    boolean bothFly = kites[i].state == FLIES && kites[j].state == FLIES;
                    if (bothFly && crossing.isBetween(kites[i], kites[j]) && crossing.heightsApart() <= settings[REACH]) {
                        wearLine(i, j);
                        wearLine(j, i);
                    }
                }
            }
        }

        private void wearLine(int kite, int by) {
            Kite k = kites[kite];
            int wear = kites[by].wearBrought();
            k.wear += wear;
            // the others come by ascending number, so a tie stays with the smallest
            if (k.mostWearBy == NONE || wear > k.mostWear) {
                k.mostWear = wear;
                k.mostWearBy = by;
            }
        }

        private void cutWornLines() {
            for (int i = 0; i < kiteCount; i++) {
                Kite k = kites[i];
                if (k.state == FLIES && k.wear >= k.tough && k.mostWearBy != NONE) {
                    int by = k.mostWearBy;
                    k.state = DRIFTS;
                    k.cutBy = by;
                    kites[by].points++;
                    cuts++;
                    // not linesCross: the other one may have been cut just now
                    crossing.isBetween(kites[Math.min(i, by)], kites[Math.max(i, by)]);
                    tell(WAS_CUT, i, by, crossing.x, crossing.y);
                }
            }
        }

        private void drift(int kite) {
            Kite k = kites[kite];
            k.blow(winds[windNumberAt(k.height)]);
            k.height = Math.max(0, k.height - settings[SINK]);
            if (k.height == 0) {
                k.state = FELL;
                tellOfKite(HAS_FALLEN, kite, NONE);
            }
        }

        private void pickUpFallenKites() {
            for (int i = 0; i < kiteCount; i++) {
                Kite k = kites[i];
                int by = k.state == FELL ? pickerAt(k.x, k.y, i) : NONE;
                if (by != NONE) {
                    k.state = PICKED;
                    k.pickedBy = by;
                    kites[by].points += 2;
                    tellOfKite(WAS_PICKED, i, by);
                }
            }
        }
    }

    // ---- the changes that can be undone

    private static final class History {
        private final Field[] kept = new Field[MOST_CHANGES];
        private int first;
        int size;

        History() {
            for (int i = 0; i < MOST_CHANGES; i++) {
                kept[i] = new Field();
            }
        }

        void clear() {
            size = 0;
        }

        void remember(Field f) {
            if (size == MOST_CHANGES) {
                first = (first + 1) % MOST_CHANGES;
            } else {
                size++;
            }
            kept[(first + size - 1) % MOST_CHANGES].copyFrom(f);
        }

        void takeBack(Field f) {
            if (size > 0) {
                size--;
                f.copyFrom(kept[(first + size) % MOST_CHANGES]);
            }
        }
    }

    // ---- the names of the kites

    private static final class Names {
        private final byte[][] letters = new byte[MOST_KITES][NAME_LENGTH];
        private final int[] lengths = new int[MOST_KITES];
        private int size;

        void clear() {
            size = 0;
        }

        void copyFrom(Names n) {
            size = n.size;
            for (int i = 0; i < size; i++) {
                lengths[i] = n.lengths[i];
                for (int at = 0; at < lengths[i]; at++) {
                    letters[i][at] = n.letters[i][at];
                }
            }
        }

        void addWord(byte[] bytes, int start, int length) {
            if (size < MOST_KITES && length <= NAME_LENGTH && start + length <= bytes.length) {
                for (int at = 0; at < length; at++) {
                    letters[size][at] = bytes[start + at];
                }
                lengths[size] = length;
                size++;
            }
        }

        int numberOf(byte[] bytes, int start, int length) {
            for (int i = 0; i < size; i++) {
                if (lengths[i] == length && isSame(i, bytes, start)) {
                    return i;
                }
            }
            return NONE;
        }

        private boolean isSame(int kite, byte[] bytes, int start) {
            for (int at = 0; at < lengths[kite]; at++) {
                if (start + at >= bytes.length || bytes[start + at] != letters[kite][at]) {
                    return false;
                }
            }
            return true;
        }
    }

    // ---- the input buffer

    private static final class Input {
        final byte[] bytes = new byte[MOST_BYTES];
        int length;

        void addFour(int four) {
            for (int shift = 24; shift >= 0; shift -= 8) {
                if (length < MOST_BYTES) {
                    bytes[length] = (byte) (four >> shift);
                    length++;
                }
            }
        }
    }

    // ---- the output

    private static final class Output {
        // 45 pairs of lines, each with two names of six letters, a sign and a gap, are the longest text
        private static final int MOST_OUTPUT = 640;

        final byte[] bytes = new byte[MOST_OUTPUT];
        int length;

        void addByte(int b) {
            if (length < MOST_OUTPUT) {
                bytes[length] = (byte) b;
                length++;
            }
        }

        void addGap() {
            if (length > 0) {
                addByte(' ');
            }
        }

        void addHyphenIfEmpty() {
            if (length == 0) {
                addByte('-');
            }
        }

        void addText(String text) {
            for (int at = 0; at < text.length(); at++) {
                addByte(text.charAt(at));
            }
        }

        void addName(Names names, int kite) {
            if (isIn(kite, 0, names.size - 1)) {
                for (int at = 0; at < names.lengths[kite]; at++) {
                    addByte(names.letters[kite][at]);
                }
            }
        }

        /** Adds a number of 0 to 9999. */
        void addNumber(int number) {
            boolean begun = false;
            for (int unit = 1000; unit > 0; unit /= 10) {
                int digit = number / unit % 10;
                begun = begun || digit != 0 || unit == 1;
                if (begun) {
                    addByte('0' + digit);
                }
            }
        }
    }

    // ---- the tokens of a setup text

    private static final class Tokens {
        static final int END = 0, WORD = 1, NUMBER = 2, MINUS = 3, SEMICOLON = 4, BLANK = 5, OTHER = 6;
        private static final int MOST_DIGITS = 4;

        final Input text;
        int kind, start, length;

        Tokens(Input text) {
            this.text = text;
        }

        void readFirst() {
            start = 0;
            length = 0;
            readNext();
        }

        void readNext() {
            start += length;
            while (start < text.length && kindOf(text.bytes[start]) == BLANK) {
                start++;
            }
            if (start >= text.length) {
                kind = END;
                length = 0;
                return;
            }
            kind = kindOf(text.bytes[start]);
            length = 1;
            boolean isRun = kind == WORD || kind == NUMBER;
            while (isRun && start + length < text.length && kindOf(text.bytes[start + length]) == kind) {
                length++;
            }
        }

        private static int kindOf(byte b) {
            if (b >= 'a' && b <= 'z') {
                return WORD;
            }
            if (b >= '0' && b <= '9') {
                return NUMBER;
            }
            switch (b) {
                case '-': return MINUS;
                case ';': return SEMICOLON;
                case ' ': return BLANK;
                case '\n': return BLANK;
                default: return OTHER;
            }
        }

        boolean isNumber() {
            return kind == NUMBER && length <= MOST_DIGITS;
        }

        int value() {
            int value = 0;
            for (int at = start; at < start + length; at++) {
                value = value * 10 + (text.bytes[at] - '0');
            }
            return value;
        }

        boolean isWord(String word) {
            if (kind != WORD || length != word.length()) {
                return false;
            }
            for (int at = 0; at < length; at++) {
                if (text.bytes[start + at] != word.charAt(at)) {
                    return false;
                }
            }
            return true;
        }
    }

    // ---- the reader of a setup text

    private static final class Setup {
        private static final int KITE = 0, WIND = 1, FIRST_SETTING = 2, LAST_SETTING = 7, SHARP = 8, TOUGH = 9, OUT = 10, WORDS = 11;
        private static final int MISPLACED = 1, OUT_OF_RANGE = 2, TOLD_AGAIN = 3, TOO_MANY = 4;

        final Field field = new Field();
        final Names names = new Names();
        private final Tokens tokens;
        private int settingsTold;
        private int number;
        int code;
        int offset = NONE;

        Setup(Input input) {
            tokens = new Tokens(input);
        }

        /** Reads the whole text; if it has no error, the field and the names are those that it tells. */
        boolean readText() {
            code = 0;
            offset = NONE;
            field.clear();
            names.clear();
            settingsTold = 0;
            tokens.readFirst();
            // each statement takes at least one byte
            for (int n = 0; n <= MOST_BYTES && tokens.kind != Tokens.END; n++) {
                int word = quotedWord();
                if (!readStatement(word) || !readSemicolon()) {
                    return false;
                }
            }
            if (field.windCount == 0) {
                field.addDefaultWind();
            }
            return true;
        }

        private boolean readStatement(int word) {
            switch (word) {
                case KITE: return readKite();
                case WIND: return readWind();
                default: return isIn(word, FIRST_SETTING, LAST_SETTING) ? readSetting(word - FIRST_SETTING) : fail(MISPLACED);
            }
        }

        private boolean readKite() {
            if (field.kiteCount == MOST_KITES) {
                return fail(TOO_MANY);
            }
            tokens.readNext();
            if (!readName() || !readNumber(0, LAST_PLACE)) {
                return false;
            }
            int x = number;
            if (!readNumber(0, LAST_PLACE)) {
                return false;
            }
            Kite k = field.kites[field.kiteCount];
            k.startAt(x, number);
            field.kiteCount++;
            if (!readOption(SHARP, 0, MOST_SHARP, k.sharp)) {
                return false;
            }
            k.sharp = number;
            if (!readOption(TOUGH, 1, MOST_TOUGH, k.tough)) {
                return false;
            }
            k.tough = number;
            if (!readOption(OUT, 1, MOST_OUT, k.out)) {
                return false;
            }
            k.out = number;
            return true;
        }

        private boolean readName() {
            if (tokens.kind != Tokens.WORD || tokens.length > NAME_LENGTH || quotedWord() != NONE) {
                return fail(MISPLACED);
            }
            if (names.numberOf(tokens.text.bytes, tokens.start, tokens.length) != NONE) {
                return fail(TOLD_AGAIN);
            }
            names.addWord(tokens.text.bytes, tokens.start, tokens.length);
            tokens.readNext();
            return true;
        }

        private boolean readOption(int word, int least, int most, int otherwise) {
            if (!tokens.isWord(quoted(word))) {
                number = otherwise;
                return true;
            }
            tokens.readNext();
            return readNumber(least, most);
        }

        private boolean readWind() {
            int place = field.windCount;
            if (place == MOST_WINDS) {
                return fail(TOO_MANY);
            }
            tokens.readNext();
            int least = place == 0 ? 0 : field.winds[place - 1].lowest + 1;
            if (!readNumber(least, place == 0 ? 0 : TOP)) {
                return false;
            }
            int lowest = number;
            if (!readSpeed()) {
                return false;
            }
            int x = number;
            if (!readSpeed()) {
                return false;
            }
            field.winds[place].become(lowest, x, number);
            field.windCount++;
            return true;
        }

        private boolean readSpeed() {
            boolean below = tokens.kind == Tokens.MINUS;
            if (below) {
                tokens.readNext();
            }
            if (!readNumber(0, MOST_SPEED)) {
                return false;
            }
            number = below ? -number : number;
            return true;
        }

        private boolean readSetting(int what) {
            if ((settingsTold & 1 << what) != 0) {
                return fail(TOLD_AGAIN);
            }
            settingsTold |= 1 << what;
            tokens.readNext();
            if (!readNumber(SETTING_LEAST[what], SETTING_MOST[what])) {
                return false;
            }
            field.settings[what] = number;
            return true;
        }

        private boolean readNumber(int least, int most) {
            if (!tokens.isNumber()) {
                return fail(MISPLACED);
            }
            number = tokens.value();
            if (!isIn(number, least, most)) {
                return fail(OUT_OF_RANGE);
            }
            tokens.readNext();
            return true;
        }

        private boolean readSemicolon() {
            if (tokens.kind != Tokens.SEMICOLON) {
                return fail(MISPLACED);
            }
            tokens.readNext();
            return true;
        }

        private boolean fail(int newCode) {
            code = newCode;
            offset = tokens.start;
            return false;
        }

        private int quotedWord() {
            for (int word = 0; word < WORDS; word++) {
                if (tokens.isWord(quoted(word))) {
                    return word;
                }
            }
            return NONE;
        }

        private static String quoted(int word) {
            switch (word) {
                case KITE: return "kite";
                case WIND: return "wind";
                case FIRST_SETTING + SLACK: return "slack";
                case FIRST_SETTING + RISE: return "rise";
                case FIRST_SETTING + CLIMB: return "climb";
                case FIRST_SETTING + SINK: return "sink";
                case FIRST_SETTING + REACH: return "reach";
                case FIRST_SETTING + PICK: return "pick";
                case SHARP: return "sharp";
                case TOUGH: return "tough";
                default: return "out";
            }
        }
    }
}
