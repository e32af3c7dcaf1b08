import java.util.ArrayList;
import java.util.List;
import java.util.function.Supplier;

/** What every call takes and refuses: each argument at and beyond its bounds, the exceptions in their order, and that nothing changes by them. */
final class Refusals extends Sentences {
    private interface Made {
        Object on(KiteQuarrel q, int[] v);
    }

    /** An argument: its name, the exception beyond its bounds, the bounds on the field of five, and a value that is right. */
    private static final class Argument {
        final String name, exception;
        final int least, most, right;

        Argument(String name, String exception, int least, int most, int right) {
            this.name = name;
            this.exception = exception;
            this.least = least;
            this.most = most;
            this.right = right;
        }

        boolean isIndex() {
            return exception.equals(Checks.INDEX);
        }

        int[] beyond() {
            return new int[] {least - 1, most + 1, LEAST, MOST};
        }
    }

    private static final class Row {
        final int promise;
        final Made call;
        final Argument[] arguments;
        /** Kites of the field of five whose state the call refuses. */
        int[] wrongStates = {};

        Row(int promise, Made call, Argument... arguments) {
            this.promise = promise;
            this.call = call;
            this.arguments = arguments;
        }

        Row refuses(int... kites) {
            wrongStates = kites;
            return this;
        }

        int[] right() {
            int[] v = new int[arguments.length];
            for (int i = 0; i < v.length; i++) v[i] = arguments[i].right;
            return v;
        }

        int[] with(int argument, int value) {
            int[] v = right();
            v[argument] = value;
            return v;
        }

        boolean has(String exception) {
            for (Argument a : arguments) if (a.exception.equals(exception)) return true;
            return false;
        }
    }

    private static final List<Row> ROWS = new ArrayList<>();

    private Refusals() {
    }

    private static Argument kite(String name) {
        return kite(name, 0);
    }

    private static Argument kite(String name, int right) {
        return new Argument(name, Checks.INDEX, 0, 4, right);
    }

    private static Argument range(String name, int least, int most) {
        return new Argument(name, Checks.ARGUMENT, least, most, least);
    }

    private static Row row(int promise, Made call, Argument... arguments) {
        Row row = new Row(promise, call, arguments);
        ROWS.add(row);
        return row;
    }

    private static void tellQueries() {
        row(10, (q, v) -> q.kite(v[0], v[1]), kite("kite"), range("what", 0, 13));
        row(11, (q, v) -> q.wind(v[0], v[1]), new Argument("wind", Checks.INDEX, 0, 1, 0), range("what", 0, 3));
        row(12, (q, v) -> q.windAt(v[0]), range("height", 0, 300));
        row(13, (q, v) -> q.span(v[0]), kite("kite"));
        row(14, (q, v) -> q.slack(v[0]), kite("kite")).refuses(1, 2, 3, 4);
        row(15, (q, v) -> q.crosses(v[0], v[1]), kite("kite"), kite("other"));
        row(16, (q, v) -> q.crossing(v[0], v[1], v[2]), kite("kite"), kite("other"), range("what", 0, 4));
        row(17, (q, v) -> q.rubs(v[0]), kite("kite"));
        row(18, (q, v) -> q.wearNow(v[0]), kite("kite"));
        row(19, (q, v) -> q.event(v[0], v[1]), new Argument("event", Checks.INDEX, 0, 6, 0), range("what", 0, 5));
        row(23, (q, v) -> q.picker(v[0], v[1], v[2]), range("x", 0, 199), range("y", 0, 199), range("not", -1, 4));
        row(24, (q, v) -> q.gap(v[0], v[1]), kite("kite"), kite("other"));
        row(25, (q, v) -> q.nearest(v[0]), kite("kite"));
        row(26, (q, v) -> q.upwind(v[0]), kite("kite")).refuses(1, 2, 3, 4);
        row(27, (q, v) -> q.threat(v[0]), kite("kite"));
        row(28, (q, v) -> q.sum(v[0]), range("what", 0, 13));
        row(29, (q, v) -> q.rank(v[0]), kite("kite"));
        row(30, (q, v) -> q.inBox(v[0], v[1], v[2], v[3]), range("x", 0, 199), range("y", 0, 199),
            new Argument("toX", Checks.ARGUMENT, 0, 199, 199), new Argument("toY", Checks.ARGUMENT, 0, 199, 199));
        row(33, (q, v) -> q.left(v[0]), kite("kite"));
    }

    private static void tellForecasts() {
        row(34, (q, v) -> q.kiteIn(v[0], v[1], v[2]), kite("kite"), range("what", 0, 13), range("ticks", 1, 100));
        row(35, (q, v) -> q.cutIn(v[0], v[1]), kite("kite"), range("ticks", 1, 100));
        row(36, (q, v) -> q.crossIn(v[0], v[1], v[2]), kite("kite"), kite("other"), range("ticks", 1, 100));
        row(37, (q, v) -> q.cutsIn(v[0]), range("ticks", 1, 100));
        row(38, (q, v) -> q.landsIn(v[0], v[1]), kite("kite"), range("ticks", 1, 100));
        row(39, (q, v) -> q.duel(v[0], v[1], v[2]), kite("kite"), kite("other"), range("ticks", 1, 100));
        row(40, (q, v) -> q.safeReel(v[0], v[1]), kite("kite"), range("ticks", 1, 50));
        row(41, (q, v) -> q.bestReel(v[0], v[1]), kite("kite"), range("ticks", 1, 50));
        row(42, (q, v) -> q.boldReel(v[0], v[1]), kite("kite"), range("ticks", 1, 50));
    }

    private static void tellChanges() {
        row(43, (q, v) -> q.run(v[0]), range("ticks", 1, 200));
        row(44, (q, v) -> q.launch(v[0]), kite("kite", 1)).refuses(0, 2, 3, 4);
        row(45, (q, v) -> q.reel(v[0], v[1]), kite("kite"), range("reel", -9, 9));
        row(46, (q, v) -> q.letGo(v[0]), kite("kite")).refuses(1, 2, 3, 4);
        row(47, (q, v) -> q.pull(v[0], v[1]), kite("kite"), range("length", 1, 400)).refuses(2, 3, 4);
        row(48, (q, v) -> q.walk(v[0], v[1], v[2]), kite("kite"), range("x", 0, 199), range("y", 0, 199));
        row(49, (q, v) -> q.restring(v[0], v[1], v[2]), kite("kite", 1), range("sharp", 0, 9), range("tough", 1, 99)).refuses(0, 2, 3);
        row(50, (q, v) -> q.setWind(v[0], v[1], v[2]), new Argument("wind", Checks.INDEX, 0, 1, 0), range("x", -9, 9), range("y", -9, 9));
        // 5 is a value of every setting, 0 to 99 are those of SLACK
        row(51, (q, v) -> q.set(v[0], v[1]), range("what", 0, 5), new Argument("value", Checks.ARGUMENT, 0, 99, 5));
        row(53, (q, v) -> q.printKite(v[0]), kite("kite"));
    }

    static void hold() {
        tellQueries();
        tellForecasts();
        tellChanges();
        for (Row row : ROWS) holdRow(row);
        ownRanges();
        wrongTimes();
        exceptions();
    }

    private static void holdRow(Row row) {
        place("Promise " + row.promise);
        for (int i = 0; i < row.arguments.length; i++) {
            int at = i;
            says("- `" + row.arguments[i].name + "`: ", () -> bounds(row, at));
        }
        for (String exception : new String[] {Checks.INDEX, Checks.ARGUMENT}) {
            if (row.has(exception)) says("Throws `" + exception + "` if", () -> beyond(row, exception));
        }
        if (row.has(Checks.INDEX)) says("Throws `" + Checks.INDEX + "` if", () -> fewAndMany(row));
        if (row.wrongStates.length > 0) says("Throws `" + Checks.STATE + "` if", () -> wrongStates(row));
    }

    /** The least and the most value of an argument are taken, those next to them are not. */
    private static void bounds(Row row, int at) {
        Argument a = row.arguments[at];
        for (int value : new int[] {a.least, a.most}) {
            taken(a.name + " " + value, a.exception, Fields::five, q -> row.call.on(q, row.with(at, value)));
        }
        for (int value : new int[] {a.least - 1, a.most + 1}) {
            is(a.name + " " + value, Checks.answerOf(() -> row.call.on(five(), row.with(at, value))), a.exception);
        }
    }

    private static void beyond(Row row, String exception) {
        for (int i = 0; i < row.arguments.length; i++) {
            int at = i;
            Argument a = row.arguments[i];
            if (!a.exception.equals(exception)) continue;
            for (int value : a.beyond()) refused(a.name + " " + value, exception, Fields::five, q -> row.call.on(q, row.with(at, value)));
        }
    }

    /** A new object has no kite and no event, but a wind; a full one has ten kites, four winds and twelve events. */
    private static void fewAndMany(Row row) {
        for (int i = 0; i < row.arguments.length; i++) {
            int at = i;
            Argument a = row.arguments[i];
            if (!a.isIndex()) continue;
            int few = a.name.equals("wind") ? 1 : 0;
            int many = a.name.equals("wind") ? 4 : a.name.equals("event") ? 12 : 10;
            Supplier<KiteQuarrel> full = () -> {
                KiteQuarrel q = ten(10, "wind 0 0 0;wind 1 1 1;wind 2 2 2;wind 3 3 3;slack 99;");
                for (int kite = 0; kite < 4; kite++) {
                    q.letGo(kite);
                }
                q.run(9);
                return q;
            };
            refused(a.name + " " + few + " of a new object", Checks.INDEX, KiteQuarrel::new, q -> row.call.on(q, row.with(at, few)));
            taken(a.name + " " + (many - 1) + " of a full one", Checks.INDEX, full, q -> row.call.on(q, row.with(at, many - 1)));
            is(a.name + " " + many + " of a full one", Checks.answerOf(() -> row.call.on(full.get(), row.with(at, many))), Checks.INDEX);
        }
    }

    private static void wrongStates(Row row) {
        for (int kite = 0; kite < 5; kite++) {
            int k = kite;
            boolean wrong = false;
            for (int w : row.wrongStates) wrong |= w == kite;
            if (wrong) {
                refused("a kite in the state " + kite, Checks.STATE, Fields::five, q -> row.call.on(q, row.with(0, k)));
            } else {
                taken("a kite in the state " + kite, Checks.STATE, Fields::five, q -> row.call.on(q, row.with(0, k)));
            }
        }
    }

    private static void ownRanges() {
        place("Promise 51");
        says("- `value`: the new value, in its range", () -> {
            int[] least = {0, 0, 0, 1, 0, 0}, most = {99, 9, 9, 20, 50, 50};
            for (int what = 0; what < 6; what++) {
                int w = what;
                for (int value : new int[] {least[w], most[w]}) is("set " + w + " " + value, all(five().set(w, value) >= 0, settingBehind(w, value)), all(true, value));
                for (int value : new int[] {least[w] - 1, most[w] + 1, LEAST, MOST}) refused("set " + w + " " + value, Checks.ARGUMENT, Fields::five, q -> q.set(w, value));
            }
        });
        place("Promise 30");
        says("Throws `IllegalArgumentException` if one of them is not 0 to 199, or the least is above the greatest", () -> {
            is("the least is the greatest", all(five().inBox(50, 52, 50, 52), five().inBox(0, 0, 0, 0), five().inBox(199, 199, 199, 199)), "16 0 0");
            int[][] rows = {{5, 0, 4, 199}, {0, 5, 199, 4}, {199, 0, 198, 199}, {0, 199, 199, 198}, {1, 0, 0, 0}, {0, 1, 0, 0}, {200, 0, 200, 199}, {0, 200, 199, 200}, {-1, 0, -1, 199}, {0, -1, 199, -1},
                {LEAST, 0, MOST, 199}, {0, LEAST, 199, MOST}, {MOST, 0, LEAST, 199}};
            for (int[] r : rows) refused("inBox " + r[0] + " " + r[1] + " " + r[2] + " " + r[3], Checks.ARGUMENT, Fields::five, q -> q.inBox(r[0], r[1], r[2], r[3]));
        });
        place("Promise 23");
        says("- `not`: number of a kite whose flyer is not asked, or NONE", () -> {
            is("NONE of a new object", new KiteQuarrel().picker(0, 0, -1), -1);
            refused("0 of a new object", Checks.ARGUMENT, KiteQuarrel::new, q -> q.picker(0, 0, 0));
            is("9 of ten", ten(0, "").picker(100, 100, 9), 0);
            is("10 of ten", Checks.answerOf(() -> ten(0, "").picker(100, 100, 10)), Checks.ARGUMENT);
        });
    }

    private static int settingBehind(int what, int value) {
        KiteQuarrel q = five();
        q.set(what, value);
        return q.setting(what);
    }

    private static void wrongTimes() {
        place("Promise 43");
        says("Throws `IllegalStateException` if the time would be greater than 5000", () -> {
            is("just to 5000", all(late(4800, "").run(200), late(4999, "").run(1), late(4990, "").run(10)), "0 0 0");
            refused("200 from 4801", Checks.STATE, () -> late(4801, "kite a 1 1;"), q -> q.run(200));
            refused("2 from 4999", Checks.STATE, () -> late(4999, "kite a 1 1;"), q -> q.run(2));
            refused("1 from 5000", Checks.STATE, () -> late(5000, "kite a 1 1;"), q -> q.run(1));
            refused("200 from 5000", Checks.STATE, () -> late(5000, "kite a 1 1;"), q -> q.run(200));
        });
        place("Promise 52");
        says("Throws `IllegalStateException` if there is none", () -> {
            refused("on a new object", Checks.STATE, KiteQuarrel::new, KiteQuarrel::undo);
            Supplier<KiteQuarrel> undone = () -> {
                KiteQuarrel q = launched(1, "kite a 1 1;");
                q.undo();
                return q;
            };
            refused("behind all undone", Checks.STATE, undone, KiteQuarrel::undo);
            Supplier<KiteQuarrel> restored = () -> {
                KiteQuarrel q = launched(1, "kite a 1 1;");
                q.saveState();
                q.restoreState();
                return q;
            };
            refused("behind restoreState", Checks.STATE, restored, KiteQuarrel::undo);
        });
        place("Promise 58");
        says("Throws `IllegalStateException` if no state is saved", () -> {
            refused("on a new object", Checks.STATE, KiteQuarrel::new, KiteQuarrel::restoreState);
            refused("behind changes", Checks.STATE, () -> launched(1, "kite a 1 1;"), KiteQuarrel::restoreState);
            Supplier<KiteQuarrel> parsed = () -> {
                KiteQuarrel q = launched(1, "kite a 1 1;");
                q.saveState();
                Checks.parse(q, "kite b 1 1;");
                return q;
            };
            refused("behind parse", Checks.STATE, parsed, KiteQuarrel::restoreState);
        });
    }

    private static void exceptions() {
        place("Exceptions");
        says("Exceptions: if several ones apply, IndexOutOfBoundsException comes first, then IllegalArgumentException, then IllegalStateException.", () -> {
            for (Row row : ROWS) order(row);
            is("run from 5000", all(Checks.answerOf(() -> late(5000, "").run(0)), Checks.answerOf(() -> late(5000, "").run(201)), Checks.answerOf(() -> late(5000, "").run(MOST))),
                all(Checks.ARGUMENT, Checks.ARGUMENT, Checks.ARGUMENT));
            is("set", Checks.answerOf(() -> five().set(6, 100)), Checks.ARGUMENT);
        });
        says("A method that throws changes nothing.", () -> {
            refused("no kite, and no such number", Checks.INDEX, Fields::five, q -> q.restring(5, 10, 0));
            refused("no such number", Checks.ARGUMENT, Fields::five, q -> q.restring(0, 1, 0));
            refused("not in this state", Checks.STATE, Fields::five, q -> q.restring(0, 1, 1));
            refused("a forecast", Checks.ARGUMENT, Fields::five, q -> q.boldReel(0, 51));
        });
        says("Sets of kites are bit masks in which bit k stands for the kite k.", () -> {
            KiteQuarrel q = tenCrossed("");
            is("all but itself", all(q.rubs(0), q.rubs(4), q.rubs(9)), "1022 1007 511");
            KiteQuarrel places = field("kite a 0 0;kite b 1 0;kite c 2 0;kite d 3 0;kite e 4 0;kite f 5 0;kite g 6 0;kite h 7 0;kite i 8 0;kite j 9 0;");
            for (int kite = 0; kite < 10; kite++) is("kite " + kite, places.inBox(kite, 0, kite, 0), 1 << kite);
            is("all", places.inBox(0, 0, 9, 0), 1023);
        });
        place("Constants");
        says("`NONE = -1`: There is no such thing.", () -> is("NONE", KiteQuarrel.NONE, -1));
        says("`FLIES = 0, DOWN = 1, DRIFTS = 2, FELL = 3, PICKED = 4`: States of kites.",
            () -> is("states", all(KiteQuarrel.FLIES, KiteQuarrel.DOWN, KiteQuarrel.DRIFTS, KiteQuarrel.FELL, KiteQuarrel.PICKED), states(five()).replaceAll("(?<=.)(?=.)", " ")));
        says("`WENT_DOWN = 0, WAS_CUT = 1, HAS_FALLEN = 2, WAS_PICKED = 3, WAS_LAUNCHED = 4`: Kinds of events.",
            () -> is("kinds", all(KiteQuarrel.WENT_DOWN, KiteQuarrel.WAS_CUT, KiteQuarrel.HAS_FALLEN, KiteQuarrel.WAS_PICKED, KiteQuarrel.WAS_LAUNCHED), "0 1 2 3 4"));
    }

    /** Every two faults at once, and all. */
    private static void order(Row row) {
        String name = "promise " + row.promise;
        for (int i = 0; i < row.arguments.length; i++) {
            for (int j = 0; j < row.arguments.length; j++) {
                Argument a = row.arguments[i], b = row.arguments[j];
                if (!a.isIndex() || i == j) continue;
                int[] v = row.with(i, a.most + 1);
                v[j] = b.most + 1;
                is(name + ": " + a.name + " and " + b.name, Checks.answerOf(() -> row.call.on(five(), v)), Checks.INDEX);
            }
            Argument a = row.arguments[i];
            for (int kite : row.wrongStates) {
                int[] v = row.with(0, kite);
                v[i] = a.least - 1;
                is(name + ": " + a.name + " and the state " + kite, Checks.answerOf(() -> row.call.on(five(), v)), a.exception);
            }
        }
    }
}
