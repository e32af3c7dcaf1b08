/** Promises 44 to 52, and section 6: changes and undo. (run, promise 43, stands in TicksTest.) */
public final class ChangesTest {
    private static final int LEAST = Integer.MIN_VALUE, MOST = Integer.MAX_VALUE;
    private static final int[] NO_KITE = {-1, 5, 10, LEAST, MOST};

    private static void due(String what, Object want, Checks.Call call) {
        Checks.due(what, want, call);
    }

    /** Kite 0 flies, 1 is down, 2 drifts, 3 fell, 4 was picked up. */
    private static KiteQuarrel ofAllStates() {
        KiteQuarrel q = Checks.field("kite a 10 10 out 30;kite b 50 50 out 7;kite c 90 90 out 20;kite d 150 150 out 3;kite e 50 52 out 4;"
            + "wind 0 0 0;slack 99;pick 5;");
        for (int i : new int[] {0, 2, 3, 4}) q.launch(i);
        for (int i : new int[] {2, 3, 4}) q.letGo(i);
        q.run(1);
        due("states", "0 1 2 3 4", () -> q.kite(0, 0) + " " + q.kite(1, 0) + " " + q.kite(2, 0) + " " + q.kite(3, 0) + " " + q.kite(4, 0));
        return q;
    }

    private static String numbers(KiteQuarrel q, int kite) {
        StringBuilder s = new StringBuilder();
        for (int what = 0; what <= 13; what++) s.append(q.kite(kite, what)).append(' ');
        return s.toString().trim();
    }

    /** A call that succeeds counts as a change, and undo takes all of it back. */
    private static void change(String what, KiteQuarrel q, Object want, Checks.Call call) {
        String before = Checks.seen(q);
        int changes = q.count(12);
        due(what, want, call);
        due(what + " counts as a change", Math.min(10, changes + 1), () -> q.count(12));
        String behind = Checks.seen(q);
        due(what + " undone", Math.min(9, changes), q::undo);
        if (changes < 10) due(what + " undone leaves all as it was", before, () -> Checks.seen(q));
        due(what + " done again", want, call);
        due(what + " done again is the same", behind, () -> Checks.seen(q));
    }

    private static void launch() {
        KiteQuarrel q = ofAllStates();
        q.walk(1, 60, 61);
        change("launch with 7 out", q, 7, () -> q.launch(1));
        due("it flies", "0 60 61 7 60 61 7 0 1 20 0 2 -1 -1", () -> numbers(q, 1));
        due("the event", "1 4 1 -1 60 61", () -> {
            StringBuilder s = new StringBuilder();
            for (int what = 0; what <= 5; what++) s.append(q.event(q.count(8) - 1, what)).append(' ');
            return s.toString().trim();
        });
        for (int kite = 0; kite < 5; kite++) {
            int k = kite;
            Checks.refused("launch of one in the state " + q.kite(k, 0), q, Checks.STATE, () -> q.launch(k));
        }
        for (int kite : NO_KITE) Checks.refused("launch " + kite, q, Checks.INDEX, () -> q.launch(kite));
        int[][] rows = {{1, 1}, {19, 19}, {20, 20}, {21, 20}, {400, 20}};
        for (int[] row : rows) {
            KiteQuarrel one = Checks.field("kite a 0 199 out " + row[0] + ";");
            due("launch with " + row[0], row[1], () -> one.launch(0));
        }
        KiteQuarrel aside = Checks.field("kite a 50 50 out 20;wind 0 5 -4;slack 0;rise 0;sink 20;");
        aside.launch(0);
        aside.pull(0, 99);
        aside.run(1);
        due("down aside", "1 55 46", () -> aside.kite(0, 0) + " " + aside.kite(0, 1) + " " + aside.kite(0, 2));
        aside.launch(0);
        due("launched at its flyer", "0 50 50", () -> aside.kite(0, 0) + " " + aside.kite(0, 1) + " " + aside.kite(0, 2));
        // down away from its flyer: launched at the flyer's place, with its reel, wear and length out as they are
        KiteQuarrel away = Checks.field("kite a 50 50 out 20;wind 0 5 0;slack 0;rise 0;sink 20;");
        away.launch(0);
        away.reel(0, 9);
        away.run(1);
        due("down", "1 55 50 0 50 50 29 9 1 20 0 0 -1 -1", () -> numbers(away, 0));
        due("launched again", "20", () -> away.launch(0));
        due("at its flyer", "0 50 50 20 50 50 29 9 1 20 0 0 -1 -1", () -> numbers(away, 0));
    }

    private static void reel() {
        KiteQuarrel q = ofAllStates();
        change("reel of one that flies", q, 0, () -> q.reel(0, 9));
        change("reel again", q, 9, () -> q.reel(0, -9));
        change("the same reel again", q, -9, () -> q.reel(0, -9));
        for (int kite = 1; kite < 5; kite++) {
            int k = kite;
            change("reel of one in the state " + k, q, 0, () -> q.reel(k, k));
            due("reel", k, () -> q.kite(k, 7));
        }
        for (int r : new int[] {-10, 10, LEAST, MOST}) Checks.refused("reel " + r, q, Checks.ARGUMENT, () -> q.reel(4, r));
        for (int kite : NO_KITE) Checks.refused("reel of " + kite, q, Checks.INDEX, () -> q.reel(kite, 10));
        due("nothing else", "0 10 10 20 10 10 30 -9 1 20 0 0 -1 -1", () -> numbers(q, 0));
    }

    private static void letGo() {
        KiteQuarrel q = ofAllStates();
        change("letGo", q, 20, () -> q.letGo(0));
        due("it drifts", "2 10 10 20 10 10 30 0 1 20 0 0 -1 -1", () -> numbers(q, 0));
        due("no event and no cut", "7 0", () -> q.count(8) + " " + q.count(9));
        q.run(1);
        due("it sinks from the next tick on", "2 16", () -> q.kite(0, 0) + " " + q.kite(0, 3));
        for (int kite = 0; kite < 5; kite++) {
            int k = kite;
            Checks.refused("letGo of one in the state " + q.kite(k, 0), q, Checks.STATE, () -> q.letGo(k));
        }
        for (int kite : NO_KITE) Checks.refused("letGo " + kite, q, Checks.INDEX, () -> q.letGo(kite));
    }

    private static void pull() {
        KiteQuarrel q = ofAllStates();
        change("pull of one that flies", q, 30, () -> q.pull(0, 1));
        due("the kite stays for now", "0 10 10 20 10 10 1 0 1 20 0 0 -1 -1", () -> numbers(q, 0));
        change("pull again", q, 1, () -> q.pull(0, 400));
        change("pull of one that is down", q, 7, () -> q.pull(1, 8));
        change("as long as before", q, 8, () -> q.pull(1, 8));
        for (int kite = 2; kite < 5; kite++) {
            int k = kite;
            Checks.refused("pull of one in the state " + k, q, Checks.STATE, () -> q.pull(k, 5));
            Checks.refused("the length comes first", q, Checks.ARGUMENT, () -> q.pull(k, 401));
        }
        for (int l : new int[] {-1, 0, 401, LEAST, MOST}) Checks.refused("pull " + l, q, Checks.ARGUMENT, () -> q.pull(0, l));
        for (int kite : NO_KITE) Checks.refused("pull of " + kite, q, Checks.INDEX, () -> q.pull(kite, 0));
    }

    private static void walk() {
        KiteQuarrel q = ofAllStates();
        int[][] places = {{10, 10, 10, 10}, {50, 50, 50, 50}, {90, 90, 90, 90}, {150, 150, 150, 150}, {50, 52, 50, 52}};
        for (int kite = 0; kite < 5; kite++) {
            int k = kite;
            change("walk of one in the state " + k, q, Math.abs(places[k][2] - 40) + Math.abs(places[k][3] - 199), () -> q.walk(k, 40, 199));
            String kiteAt = k == 1 ? "40 199" : places[k][0] + " " + places[k][1];
            due("places of one in the state " + k, kiteAt + " 40 199", () -> q.kite(k, 1) + " " + q.kite(k, 2) + " " + q.kite(k, 4) + " " + q.kite(k, 5));
        }
        change("walk to where one is", q, 0, () -> q.walk(0, 40, 199));
        change("walk back", q, 40 + 199, () -> q.walk(0, 0, 0));
        for (int v : new int[] {-1, 200, LEAST, MOST}) {
            Checks.refused("walk to x " + v, q, Checks.ARGUMENT, () -> q.walk(0, v, 0));
            Checks.refused("walk to y " + v, q, Checks.ARGUMENT, () -> q.walk(0, 0, v));
        }
        for (int kite : NO_KITE) Checks.refused("walk of " + kite, q, Checks.INDEX, () -> q.walk(kite, -1, -1));
        KiteQuarrel away = Checks.field("kite a 50 50 out 20;wind 0 5 0;slack 0;rise 0;sink 20;");
        away.launch(0);
        away.pull(0, 99);
        away.run(1);
        due("down away from its flyer", "1 55 50", () -> away.kite(0, 0) + " " + away.kite(0, 1) + " " + away.kite(0, 2));
        due("goes with the flyer", "3 49 48 49 48", () -> away.walk(0, 49, 48) + " " + away.kite(0, 1) + " " + away.kite(0, 2) + " " + away.kite(0, 4) + " " + away.kite(0, 5));
    }

    private static void restring() {
        KiteQuarrel q = ofAllStates();
        q.reel(4, 3);
        due("picked up", "4 50 52 0 50 52 4 3 1 20 0 0 1 -1", () -> numbers(q, 4));
        q.walk(4, 60, 70);
        change("restring of one that was picked up", q, 0, () -> q.restring(4, 0, 1));
        due("down at its flyer", "1 60 70 0 60 70 10 3 0 1 0 0 -1 -1", () -> numbers(q, 4));
        change("restring of one that is down", q, 0, () -> q.restring(1, 9, 99));
        due("points stay", "1 50 50 0 50 50 10 0 9 99 0 2 -1 -1", () -> numbers(q, 1));
        for (int kite : new int[] {0, 2, 3}) {
            Checks.refused("restring of one in the state " + kite, q, Checks.STATE, () -> q.restring(kite, 1, 1));
            Checks.refused("its numbers come first", q, Checks.ARGUMENT, () -> q.restring(kite, 10, 1));
        }
        for (int v : new int[] {-1, 10, LEAST, MOST}) Checks.refused("restring sharp " + v, q, Checks.ARGUMENT, () -> q.restring(1, v, 1));
        for (int v : new int[] {-1, 0, 100, LEAST, MOST}) Checks.refused("restring tough " + v, q, Checks.ARGUMENT, () -> q.restring(1, 1, v));
        for (int kite : NO_KITE) Checks.refused("restring " + kite, q, Checks.INDEX, () -> q.restring(kite, 10, 0));
        // worn, cut and picked up
        KiteQuarrel cut = Checks.field("kite ann 50 50 sharp 2 tough 9 out 30;kite bob 45 60 sharp 3 tough 4 out 30;wind 0 0 0;slack 99;");
        cut.launch(0);
        cut.launch(1);
        cut.walk(0, 40, 50);
        cut.walk(1, 45, 40);
        cut.run(7);
        due("cut and picked up", "4 45 60 0 45 40 30 0 3 4 4 0 0 0", () -> numbers(cut, 1));
        change("restring", cut, 4, () -> cut.restring(1, 5, 6));
        due("a new line", "1 45 40 0 45 40 10 0 5 6 0 0 -1 -1", () -> numbers(cut, 1));
        // down with wear and away from its flyer
        cut.set(0, 0);
        cut.set(3, 20);
        cut.setWind(0, 3, 0);
        cut.set(1, 0);
        cut.pull(0, 400);
        cut.run(1);
        due("ann is down", "1 53 50 0 40 50 400 0 2 9 6 3 -1 -1", () -> numbers(cut, 0));
        change("restring of worn one", cut, 6, () -> cut.restring(0, 2, 9));
        due("it stays where it is", "1 53 50 0 40 50 10 0 2 9 0 3 -1 -1", () -> numbers(cut, 0));
    }

    private static void setWind() {
        KiteQuarrel q = Checks.field("kite a 5 5;wind 0 -7 6;wind 40 1 2;");
        change("setWind 0", q, 7, () -> q.setWind(0, 9, -9));
        change("setWind 1", q, 2, () -> q.setWind(1, -9, 9));
        change("setWind 1 again", q, 9, () -> q.setWind(1, 0, 0));
        change("the same", q, 0, () -> q.setWind(1, 0, 0));
        due("winds", "0 9 -9 9 40 0 0 0", () -> {
            StringBuilder s = new StringBuilder();
            for (int w = 0; w < 2; w++) for (int what = 0; what < 4; what++) s.append(q.wind(w, what)).append(' ');
            return s.toString().trim();
        });
        for (int w : new int[] {-1, 2, 4, LEAST, MOST}) Checks.refused("setWind of " + w, q, Checks.INDEX, () -> q.setWind(w, 10, 10));
        for (int v : new int[] {-10, 10, LEAST, MOST}) {
            Checks.refused("setWind x " + v, q, Checks.ARGUMENT, () -> q.setWind(0, v, 0));
            Checks.refused("setWind y " + v, q, Checks.ARGUMENT, () -> q.setWind(0, 0, v));
        }
    }

    private static void set() {
        KiteQuarrel q = new KiteQuarrel();
        int[] first = {5, 2, 3, 4, 3, 10}, least = {0, 0, 0, 1, 0, 0}, most = {99, 9, 9, 20, 50, 50};
        for (int what = 0; what < 6; what++) {
            int w = what;
            change("set least " + w, q, first[w], () -> q.set(w, least[w]));
            due("least " + w, least[w], () -> q.setting(w));
            change("set most " + w, q, least[w], () -> q.set(w, most[w]));
            due("most " + w, most[w], () -> q.setting(w));
            q.set(w, most[w]);
            for (int v : new int[] {least[w] - 1, most[w] + 1, LEAST, MOST}) Checks.refused("set " + w + " to " + v, q, Checks.ARGUMENT, () -> q.set(w, v));
            for (int other = 0; other < 6; other++) {
                int o = other;
                due("setting " + o, o <= w ? most[o] : first[o], () -> q.setting(o));
            }
            Checks.parse(q, "");
            for (int done = 0; done <= w; done++) q.set(done, most[done]);
        }
        for (int w : new int[] {-1, 6, LEAST, MOST}) Checks.refused("set " + w, q, Checks.ARGUMENT, () -> q.set(w, 5));
    }

    private static void undo() {
        KiteQuarrel q = Checks.field("kite a 50 50 out 30;kite b 50 50;");
        Checks.refused("undo of nothing", q, Checks.STATE, q::undo);
        String[] seen = new String[14];
        for (int n = 0; n < 13; n++) {
            seen[n] = seenBut(q);
            q.reel(n % 2, n - 6);
            due("changes", Math.min(10, n + 1), () -> q.count(12));
        }
        Checks.feed(q, "find me");
        q.printKite(0);
        for (int n = 12; n >= 3; n--) {
            int left = n - 3;
            due("undo " + n, left, q::undo);
            due("as before " + n, seen[n], () -> seenBut(q));
            due("changes left", left, () -> q.count(12));
        }
        Checks.refused("an eleventh undo", q, Checks.STATE, q::undo);
        due("the buffer and the output stay", "7 true", () -> Checks.bufferLength(q) + " " + Checks.output(q).startsWith("a 50,50"));
        // undone changes leave room for others
        q.reel(0, 9);
        q.reel(0, 8);
        q.undo();
        q.reel(0, 7);
        due("the latest not undone", "1 9 0 -4", () -> q.undo() + " " + q.kite(0, 7) + " " + q.undo() + " " + q.kite(0, 7));
        q.launch(0);
        q.run(200);
        q.run(3);
        due("time, kites and events are taken back", "2 200 1 1 0", () -> {
            int left = q.undo();
            int time = q.count(2);
            return left + " " + time + " " + q.undo() + " " + q.count(8) + " " + q.count(2);
        });
        Checks.parse(q, "sink 0;");
        q.set(0, 50);
        Checks.parse(q, "sink 99;");
        q.undo();
        due("the error stays", "2 5 5", () -> q.errorCode() + " " + q.errorOffset() + " " + q.setting(0));
        q.set(0, 1);
        q.saveState();
        q.undo();
        due("the saved state stays", "5 0 1", () -> q.setting(0) + " " + q.restoreState() + " " + q.setting(0));
        Checks.refused("nothing can be undone then", q, Checks.STATE, q::undo);
    }

    /** What is seen but for the output and the number of changes. */
    private static String seenBut(KiteQuarrel q) {
        String s = Checks.seen(q);
        return s.substring(0, s.indexOf(" output ")).replaceFirst("^((?:-?\\d+ ){12})\\d+ ", "$1");
    }

    private static void cutsAndPointsUndone() {
        KiteQuarrel q = Checks.field("kite ann 50 50 sharp 2 tough 9 out 30;kite bob 45 60 sharp 3 tough 4 out 30;wind 0 0 0;slack 99;");
        q.launch(0);
        q.launch(1);
        q.walk(0, 40, 50);
        q.walk(1, 45, 40);
        change("run to the picking up", q, 1, () -> q.run(7));
        due("cuts and points", "1 3", () -> q.count(9) + " " + q.sum(11));
        q.undo();
        due("none", "0 0 2", () -> q.count(9) + " " + q.sum(11) + " " + q.count(8));
    }

    /** Twelve events are kept; undo brings back those that later ones have put out. */
    private static void eventsUndone() {
        KiteQuarrel q = Checks.field("kite a 50 50 out 10;kite b 52 57 out 3;wind 0 0 0;sink 20;slack 0;");
        for (int n = 0; n < 5; n++) {
            q.launch(0);
            q.pull(0, 50);
            q.run(1);
        }
        q.set(0, 0);
        String before = seenBut(q);
        change("a launch with ten events", q, 20, () -> q.launch(0));
        due("eleven events", 11, () -> q.count(8));
        q.run(1);
        String twelve = seenBut(q);
        change("a launch with twelve events", q, 20, () -> q.launch(0));
        change("a run with twelve events", q, 0, () -> q.run(1));
        q.undo();
        q.undo();
        due("the twelve are there again", twelve, () -> seenBut(q));
        q.saveState();
        Checks.due("undone events are put out by others", false, () -> {
            for (int n = 0; n < 12; n++) {
                q.launch(1);
                q.letGo(1);
                q.run(5);
                q.restring(1, 1, 1);
            }
            return twelve.equals(seenBut(q));
        });
        q.restoreState();
        due("the twelve are restored", twelve, () -> seenBut(q));
        due("others than before", false, () -> before.equals(twelve));
        due("forecasts leave them", twelve, () -> {
            q.kiteIn(0, 0, 9);
            return seenBut(q);
        });
    }

    public static void main(String[] args) {
        launch();
        reel();
        letGo();
        pull();
        walk();
        restring();
        setWind();
        set();
        undo();
        eventsUndone();
        cutsAndPointsUndone();
        Checks.end("ChangesTest");
    }
}
