/** Promises 10 to 33, and sections 1, 3 and 5: what there is. */
public final class QueriesTest {
    private static final int LEAST = Integer.MIN_VALUE, MOST = Integer.MAX_VALUE;

    private static void due(String what, Object want, Checks.Call call) {
        Checks.due(what, want, call);
    }

    /**
     * Without wind, and with slack enough, so that nothing moves. Seen from above ann's line goes from (40,50) to (50,50),
     * bob's from (45,40) to (45,60); spans 22 and 28, slacks 8 and 2, heights at the crossing 10 - 4 and 10 - 1.
     */
    private static KiteQuarrel crossed() {
        KiteQuarrel q = Checks.field("kite ann 50 50 sharp 2 tough 9 out 30;kite bob 45 60 sharp 3 tough 4 out 30;kite cy 0 0;wind 0 0 0;slack 99;");
        q.launch(0);
        q.launch(1);
        q.walk(0, 40, 50);
        q.walk(1, 45, 40);
        return q;
    }

    /** Kites 0 to 9 of one place, launched up to the given number. */
    private static KiteQuarrel many(int launched, String rest) {
        StringBuilder text = new StringBuilder();
        for (char c = 'a'; c <= 'j'; c++) text.append("kite ").append(c).append(" 100 100;");
        KiteQuarrel q = Checks.field(text + rest);
        for (int i = 0; i < launched; i++) q.launch(i);
        return q;
    }

    private static String numbers(KiteQuarrel q, int kite) {
        StringBuilder s = new StringBuilder();
        for (int what = 0; what <= 13; what++) s.append(q.kite(kite, what)).append(' ');
        return s.toString().trim();
    }

    private static void kite() {
        KiteQuarrel q = crossed();
        due("ann at first", "0 50 50 20 40 50 30 0 2 9 0 0 -1 -1", () -> numbers(q, 0));
        q.reel(1, 0);
        q.run(2);
        due("ann has cut", "0 50 50 20 40 50 30 0 2 9 6 1 -1 -1", () -> numbers(q, 0));
        due("bob is cut", "2 45 60 20 45 40 30 0 3 4 4 0 -1 0", () -> numbers(q, 1));
        q.run(4);
        due("bob still drifts", "2 45 60 4 45 40 30 0 3 4 4 0 -1 0", () -> numbers(q, 1));
        q.run(1);
        due("bob is picked up", "4 45 60 0 45 40 30 0 3 4 4 0 0 0", () -> numbers(q, 1));
        due("ann's points", 3, () -> q.kite(0, 11));
        for (int kite : new int[] {-1, 3, 10, LEAST, MOST}) Checks.refused("kite " + kite, q, Checks.INDEX, () -> q.kite(kite, 0));
        for (int what : new int[] {-1, 14, LEAST, MOST}) Checks.refused("kite of " + what, q, Checks.ARGUMENT, () -> q.kite(0, what));
        Checks.refused("kite 3 of 14", q, Checks.INDEX, () -> q.kite(3, 14));
    }

    private static void wind() {
        KiteQuarrel q = Checks.field("wind 0 1 -2;wind 9 -7 6;wind 300 0 0;");
        due("winds", "0 1 -2 2 9 -7 6 7 300 0 0 0", () -> {
            StringBuilder s = new StringBuilder();
            for (int w = 0; w < 3; w++) for (int what = 0; what < 4; what++) s.append(q.wind(w, what)).append(' ');
            return s.toString().trim();
        });
        for (int w : new int[] {-1, 3, 4, LEAST, MOST}) Checks.refused("wind " + w, q, Checks.INDEX, () -> q.wind(w, 0));
        for (int what : new int[] {-1, 4, LEAST, MOST}) Checks.refused("wind of " + what, q, Checks.ARGUMENT, () -> q.wind(2, what));
        Checks.refused("wind 3 of 4", q, Checks.INDEX, () -> q.wind(3, 4));
        int[][] rows = {{0, 0}, {8, 0}, {9, 1}, {10, 1}, {299, 1}, {300, 2}};
        for (int[] row : rows) due("windAt " + row[0], row[1], () -> q.windAt(row[0]));
        for (int h : new int[] {-1, 301, LEAST, MOST}) Checks.refused("windAt " + h, q, Checks.ARGUMENT, () -> q.windAt(h));
        KiteQuarrel one = new KiteQuarrel();
        due("windAt of one wind", "0 0", () -> one.windAt(0) + " " + one.windAt(300));
    }

    private static void spanAndSlack() {
        KiteQuarrel q = crossed();
        // 10, 0, 20: 500 is between 22 * 22 and 23 * 23; 0, 20, 20: 800 between 28 * 28 and 29 * 29
        due("spans", "22 28 -1", () -> q.span(0) + " " + q.span(1) + " " + q.span(2));
        due("slacks", "8 2", () -> q.slack(0) + " " + q.slack(1));
        q.walk(0, 50, 29);
        due("a span of a square", "29 1", () -> q.span(0) + " " + q.slack(0));
        q.walk(0, 0, 50);
        due("a slack below 0", "53 -23", () -> q.span(0) + " " + q.slack(0));
        q.walk(0, 199, 199);
        due("a long one", "211", () -> q.span(0));
        q.letGo(1);
        due("one that drifts", -1, () -> q.span(1));
        Checks.refused("slack of one that drifts", q, Checks.STATE, () -> q.slack(1));
        Checks.refused("slack of one that is down", q, Checks.STATE, () -> q.slack(2));
        for (int kite : new int[] {-1, 3, LEAST, MOST}) {
            Checks.refused("span " + kite, q, Checks.INDEX, () -> q.span(kite));
            Checks.refused("slack " + kite, q, Checks.INDEX, () -> q.slack(kite));
        }
    }

    private static String crossing(KiteQuarrel q, int kite, int other) {
        StringBuilder s = new StringBuilder();
        for (int what = 0; what <= 4; what++) s.append(q.crossing(kite, other, what)).append(' ');
        return s.toString().trim();
    }

    private static void crossings() {
        KiteQuarrel q = crossed();
        due("they cross", "true true", () -> q.crosses(0, 1) + " " + q.crosses(1, 0));
        due("no one else", "false false false false", () -> q.crosses(0, 0) + " " + q.crosses(1, 1) + " " + q.crosses(0, 2) + " " + q.crosses(2, 1));
        due("crossing", "45 50 6 9 3", () -> crossing(q, 0, 1));
        due("crossing the other way", "45 50 9 6 3", () -> crossing(q, 1, 0));
        due("no crossing", "-1 -1 -1 -1 -1", () -> crossing(q, 0, 2));
        due("no crossing with itself", "-1 -1 -1 -1 -1", () -> crossing(q, 1, 1));
        q.pull(0, 400);
        due("a slack line lies on the ground", "45 50 0 9 9", () -> crossing(q, 0, 1));
        q.pull(0, 23);
        due("half of a slack of 1 is nothing", "45 50 10 9 1", () -> crossing(q, 0, 1));
        q.pull(0, 1);
        due("a slack below 0 takes nothing", "45 50 10 9 1", () -> crossing(q, 0, 1));
        q.walk(0, 40, 47);
        // from (40,47) by (10,3): half of the way is (45, 48.5); kite 1 from (45,40) by (0,20): 8.5 / 20 of the height 20
        due("places are rounded down", "45 48 10 7 3", () -> crossing(q, 0, 1));
        for (int what : new int[] {-1, 5, LEAST, MOST}) Checks.refused("crossing of " + what, q, Checks.ARGUMENT, () -> q.crossing(0, 2, what));
        for (int kite : new int[] {-1, 3, LEAST, MOST}) {
            Checks.refused("crosses " + kite, q, Checks.INDEX, () -> q.crosses(kite, 0));
            Checks.refused("crosses of " + kite, q, Checks.INDEX, () -> q.crosses(0, kite));
            Checks.refused("crossing " + kite, q, Checks.INDEX, () -> q.crossing(kite, 0, 9));
            Checks.refused("crossing of " + kite, q, Checks.INDEX, () -> q.crossing(0, kite, 9));
        }
        q.letGo(1);
        due("a kite that drifts has no line", "false -1", () -> q.crosses(0, 1) + " " + q.crossing(0, 1, 0));
    }

    /** Lines of kites launched at (x, y), whose flyers walk then: the place of the crossing, or none. */
    private static void crossingOf(String want, int... places) {
        KiteQuarrel q = Checks.field("kite a " + places[2] + " " + places[3] + " out 400;kite b " + places[6] + " " + places[7] + " out 400;");
        q.launch(0);
        q.launch(1);
        q.walk(0, places[0], places[1]);
        q.walk(1, places[4], places[5]);
        due("crossing of " + java.util.Arrays.toString(places), want, () -> q.crosses(0, 1) ? q.crossing(0, 1, 0) + "," + q.crossing(0, 1, 1) : "none");
    }

    private static void placesOfCrossings() {
        crossingOf("45,48", 40, 47, 50, 50, 45, 40, 45, 60);
        // below 0 away from 0: half of -3 is -2, from 50 on
        crossingOf("45,48", 50, 50, 40, 47, 45, 40, 45, 60);
        crossingOf("48,45", 50, 50, 47, 40, 40, 45, 60, 45);
        crossingOf("45,48", 40, 47, 50, 50, 45, 60, 45, 40);
        // the number decides, not the place: bob's line has the crossing at 48.5 of an even way
        crossingOf("45,48", 45, 40, 45, 60, 40, 47, 50, 50);
        crossingOf("99,99", 0, 0, 199, 199, 0, 199, 199, 0);
        // an end on the other line, or on its prolongation, is not strictly on a side
        crossingOf("none", 40, 50, 50, 50, 45, 50, 45, 60);
        crossingOf("none", 40, 50, 50, 50, 45, 60, 45, 50);
        crossingOf("none", 45, 50, 45, 60, 40, 50, 50, 50);
        crossingOf("none", 45, 60, 45, 50, 40, 50, 50, 50);
        crossingOf("none", 40, 50, 50, 50, 51, 40, 51, 60);
        crossingOf("none", 40, 50, 50, 50, 39, 40, 39, 60);
        crossingOf("none", 51, 40, 51, 60, 40, 50, 50, 50);
        crossingOf("none", 40, 50, 50, 50, 45, 51, 45, 60);
        // parallel, the same, above the flyer
        crossingOf("none", 40, 50, 50, 50, 40, 51, 50, 51);
        crossingOf("none", 40, 50, 50, 50, 40, 50, 50, 50);
        crossingOf("none", 40, 50, 50, 50, 42, 50, 60, 50);
        crossingOf("none", 45, 50, 45, 50, 40, 50, 50, 50);
    }

    private static void rubbing() {
        KiteQuarrel q = crossed();
        due("rubs at the reach", "2 1 0", () -> q.rubs(0) + " " + q.rubs(1) + " " + q.rubs(2));
        due("wearNow", "3 2 0", () -> q.wearNow(0) + " " + q.wearNow(1) + " " + q.wearNow(2));
        due("threat", "1 0 -1", () -> q.threat(0) + " " + q.threat(1) + " " + q.threat(2));
        q.reel(1, -4);
        q.reel(0, 9);
        due("wearNow with reels", "15 20", () -> q.wearNow(0) + " " + q.wearNow(1));
        q.set(4, 2);
        due("beyond the reach", "0 0 0 0 -1 -1", () -> q.rubs(0) + " " + q.rubs(1) + " " + q.wearNow(0) + " " + q.wearNow(1) + " " + q.threat(0) + " " + q.threat(1));
        due("pairs", "1 0", () -> q.count(10) + " " + q.count(11));
        q.set(4, 3);
        q.restring(2, 0, 1);
        due("pairs", "1 1", () -> q.count(10) + " " + q.count(11));
        for (int kite : new int[] {-1, 3, LEAST, MOST}) {
            Checks.refused("rubs " + kite, q, Checks.INDEX, () -> q.rubs(kite));
            Checks.refused("wearNow " + kite, q, Checks.INDEX, () -> q.wearNow(kite));
            Checks.refused("threat " + kite, q, Checks.INDEX, () -> q.threat(kite));
        }
    }

    /** The line of c crosses those of a, b, d and e, which bring 0, 2, 3 and 3 wear at first. */
    private static KiteQuarrel crossedByFour() {
        KiteQuarrel q = Checks.field("kite a 20 50 sharp 0 out 60;kite b 30 50 sharp 2 out 60;kite c 60 45 sharp 1 tough 8 out 60;"
            + "kite d 40 50 sharp 3 out 60;kite e 50 50 sharp 3 out 60;wind 0 0 0;slack 99;reach 50;");
        for (int i = 0; i < 5; i++) q.launch(i);
        q.walk(0, 20, 40);
        q.walk(1, 30, 40);
        q.walk(2, 10, 45);
        q.walk(3, 40, 40);
        q.walk(4, 50, 40);
        return q;
    }

    private static void threats() {
        KiteQuarrel q = crossedByFour();
        due("rubs", "4 4 27 4 4", () -> q.rubs(0) + " " + q.rubs(1) + " " + q.rubs(2) + " " + q.rubs(3) + " " + q.rubs(4));
        due("pairs", "4 4", () -> q.count(10) + " " + q.count(11));
        due("wear of all", "8 1", () -> q.wearNow(2) + " " + q.wearNow(4));
        due("the most wear, the smallest number", "3 2", () -> q.threat(2) + " " + q.threat(0));
        q.reel(4, 1);
        due("with a reel", 4, () -> q.threat(2));
        q.reel(1, -2);
        due("as much", 1, () -> q.threat(2));
        q.letGo(1);
        q.letGo(3);
        q.letGo(4);
        due("one without sharpness rubs too", "1 0 0", () -> q.rubs(2) + " " + q.wearNow(2) + " " + q.threat(2));
    }

    private static String event(KiteQuarrel q, int event) {
        StringBuilder s = new StringBuilder();
        for (int what = 0; what <= 5; what++) s.append(q.event(event, what)).append(' ');
        return s.toString().trim();
    }

    private static void events() {
        KiteQuarrel q = crossed();
        due("launch of ann", "0 4 0 -1 50 50", () -> event(q, 0));
        due("launch of bob", "0 4 1 -1 45 60", () -> event(q, 1));
        Checks.refused("no third event", q, Checks.INDEX, () -> q.event(2, 0));
        q.set(1, 0);
        q.run(2);
        due("cut of bob, at the crossing", "1 1 1 0 45 50", () -> event(q, 2));
        q.setWind(0, -1, 0);
        q.run(5);
        due("bob fell", "6 2 1 -1 40 60", () -> event(q, 3));
        due("ann picked it up", "6 3 1 0 40 60", () -> event(q, 4));
        q.set(0, 0);
        q.set(3, 20);
        q.pull(0, 400);
        q.run(1);
        due("ann is down", "7 0 0 -1 44 50", () -> event(q, 5));
        due("six events", 6, () -> q.count(8));
        for (int e : new int[] {-1, 6, 12, LEAST, MOST}) Checks.refused("event " + e, q, Checks.INDEX, () -> q.event(e, 0));
        for (int what : new int[] {-1, 6, LEAST, MOST}) Checks.refused("event of " + what, q, Checks.ARGUMENT, () -> q.event(5, what));
        Checks.refused("event 6 of 6", q, Checks.INDEX, () -> q.event(6, 6));
        KiteQuarrel none = new KiteQuarrel();
        Checks.refused("event of none", none, Checks.INDEX, () -> none.event(0, 0));
    }

    private static void latestEvents() {
        KiteQuarrel q = many(10, "wind 0 0 0;sink 20;slack 0;");
        // the length out 10 is the height, and so the slack is 0: they stay; with 11 they come down at once
        for (int i = 0; i < 10; i++) q.pull(i, 11);
        due("ten launches", 10, () -> q.count(8));
        q.run(1);
        due("twelve are kept", 12, () -> q.count(8));
        due("the earliest kept", "0 4 8 -1 100 100", () -> event(q, 0));
        due("the next", "0 4 9 -1 100 100", () -> event(q, 1));
        due("the first one down", "0 0 0 -1 100 100", () -> event(q, 2));
        due("the last one down", "0 0 9 -1 100 100", () -> event(q, 11));
        Checks.refused("event 12", q, Checks.INDEX, () -> q.event(12, 0));
        q.launch(3);
        due("one more", "0 4 9 -1 100 100, 1 4 3 -1 100 100", () -> event(q, 0) + ", " + event(q, 11));
    }

    /** In one tick: b goes down, two lines cut one another, f falls and is picked up; and told in this order. */
    private static void orderOfEvents() {
        KiteQuarrel q = Checks.field("kite f 45 70 out 4;kite ann 50 50 sharp 2 tough 3 out 30;kite bob 45 60 sharp 3 tough 2 out 30;kite b 45 75 out 10;"
            + "wind 0 0 0;slack 9;sink 20;");
        for (int i = 0; i < 4; i++) q.launch(i);
        q.walk(1, 40, 50);
        q.walk(2, 45, 40);
        q.pull(3, 50);
        q.letGo(0);
        due("cuts", 2, () -> q.run(1));
        due("in this order", "0l0 0l1 0l2 0l3 0d3 0c1/2 0c2/1 0f0 0p0/3", () -> {
            q.printEvents();
            return Checks.output(q);
        });
        due("places", "45 75, 45 50, 45 50, 45 70, 45 70", () -> {
            StringBuilder s = new StringBuilder();
            for (int e = 4; e < 9; e++) s.append(e > 4 ? ", " : "").append(q.event(e, 4)).append(' ').append(q.event(e, 5));
            return s.toString();
        });
        due("both cut got a point", "0 1 1 2", () -> q.kite(0, 11) + " " + q.kite(1, 11) + " " + q.kite(2, 11) + " " + q.kite(3, 11));
        due("each by the other", "2 1", () -> q.kite(1, 13) + " " + q.kite(2, 13));
    }

    private static void bestOfAll() {
        KiteQuarrel none = new KiteQuarrel();
        due("of none", "-1 -1 -1 -1 0.0", () -> none.highest() + " " + none.tautest() + " " + none.leader() + " " + none.spread() + " " + none.meanHeight());
        KiteQuarrel q = Checks.field("kite a 9 9 out 5;kite b 9 9 out 20;kite c 9 9 out 20;kite d 9 9 out 99;kite e 9 9 out 6;");
        due("none flies", "-1 -1 -1 -1 0.0", () -> q.highest() + " " + q.tautest() + " " + q.leader() + " " + q.spread() + " " + q.meanHeight());
        q.launch(0);
        due("one flies", "0 0 0 5.0", () -> q.highest() + " " + q.tautest() + " " + q.spread() + " " + q.meanHeight());
        q.launch(3);
        due("two fly", "3 0 15 12.5", () -> q.highest() + " " + q.tautest() + " " + q.spread() + " " + q.meanHeight());
        q.launch(2);
        q.launch(1);
        due("the smallest number on a tie", "1 0 15 16.25", () -> q.highest() + " " + q.tautest() + " " + q.spread() + " " + q.meanHeight());
        q.walk(2, 9, 29);
        due("a slack below 0 is less", 2, q::tautest);
        KiteQuarrel slacks = Checks.field("kite a 9 9 out 50;kite b 9 9 out 30;kite c 9 9 out 40;kite d 9 9 out 29;kite e 9 9 out 35;");
        for (int i = 0; i < 5; i++) slacks.launch(i);
        due("the least of five", 3, slacks::tautest);
        due("as high as each other", 0, slacks::highest);
        q.launch(4);
        due("the mean is a double", (double) 71 / 5.0, q::meanHeight);
        q.letGo(1);
        q.letGo(0);
        due("one that drifts does not count", "2 2 14", () -> q.highest() + " " + q.tautest() + " " + q.spread());
        q.run(30);
    }

    private static void points() {
        KiteQuarrel q = crossed();
        due("nobody has a point", "-1 0 1 2", () -> q.leader() + " " + q.rank(0) + " " + q.rank(1) + " " + q.rank(2));
        q.reel(1, 2);
        due("ann is cut first", 1, () -> q.run(1));
        due("bob leads", "1 1 0 2", () -> q.leader() + " " + q.rank(0) + " " + q.rank(1) + " " + q.rank(2));
        due("sum of points", 1, () -> q.sum(11));
        for (int kite : new int[] {-1, 3, LEAST, MOST}) Checks.refused("rank " + kite, q, Checks.INDEX, () -> q.rank(kite));
        KiteQuarrel tie = crossedByFour();
        tie.walk(4, 50, 90);
        tie.run(3);
        due("points of d", "0 0 0 1 0", () -> tie.kite(0, 11) + " " + tie.kite(1, 11) + " " + tie.kite(2, 11) + " " + tie.kite(3, 11) + " " + tie.kite(4, 11));
        due("ranks", "3 1 2 3 0 4", () -> tie.leader() + " " + tie.rank(0) + " " + tie.rank(1) + " " + tie.rank(2) + " " + tie.rank(3) + " " + tie.rank(4));
    }

    private static void leaderOnTie() {
        KiteQuarrel q = Checks.field("kite ann 50 50 sharp 2 tough 3 out 30;kite bob 45 60 sharp 3 tough 2 out 30;wind 0 0 0;slack 99;");
        q.launch(0);
        q.launch(1);
        q.walk(0, 40, 50);
        q.walk(1, 45, 40);
        q.run(1);
        due("one point each", "1 1", () -> q.kite(0, 11) + " " + q.kite(1, 11));
        due("the smallest number leads", "0 0 1", () -> q.leader() + " " + q.rank(0) + " " + q.rank(1));
    }

    private static void picker() {
        KiteQuarrel q = Checks.field("kite a 50 50;kite b 60 50;kite c 50 60;kite d 51 41;kite e 100 100;pick 10;");
        Object[][] rows = {
            {50, 50, -1, 0}, {50, 50, 0, 1}, {55, 50, -1, 0}, {55, 50, 0, 1}, {50, 55, 0, 2}, {56, 50, -1, 1}, {40, 40, -1, 0}, {40, 40, 0, -1}, {39, 50, -1, -1},
            {41, 40, -1, 3}, {50, 39, -1, 3}, {51, 30, -1, -1}, {110, 110, -1, 4}, {110, 111, -1, -1}, {90, 90, -1, 4}, {90, 90, 4, -1}, {89, 100, -1, -1},
            {0, 0, -1, -1}, {199, 199, -1, -1}, {55, 55, 0, 1}};
        for (Object[] row : rows) {
            due("picker at " + row[0] + "," + row[1] + " not " + row[2], row[3], () -> q.picker((int) row[0], (int) row[1], (int) row[2]));
        }
        for (int v : new int[] {-1, 200, LEAST, MOST}) {
            Checks.refused("picker x " + v, q, Checks.ARGUMENT, () -> q.picker(v, 0, -1));
            Checks.refused("picker y " + v, q, Checks.ARGUMENT, () -> q.picker(0, v, -1));
        }
        for (int v : new int[] {-2, 5, 9, LEAST, MOST}) Checks.refused("picker not " + v, q, Checks.ARGUMENT, () -> q.picker(0, 0, v));
        q.launch(0);
        due("one who flies it picks up", 0, () -> q.picker(50, 50, -1));
        q.letGo(0);
        due("one whose kite drifts does not", 1, () -> q.picker(55, 50, -1));
        q.set(5, 0);
        due("PICK 0", "1 -1", () -> q.picker(60, 50, -1) + " " + q.picker(60, 51, -1));
        KiteQuarrel none = new KiteQuarrel();
        due("picker of none", -1, () -> none.picker(199, 199, -1));
        Checks.refused("picker of none not 0", none, Checks.ARGUMENT, () -> none.picker(0, 0, 0));
    }

    private static void gapAndNearest() {
        KiteQuarrel q = Checks.field("kite a 0 0 out 400;kite b 199 199;kite c 3 4 out 12;kite d 4 3;kite e 0 5;");
        due("gaps", "281 281 5 0 1", () -> q.gap(0, 1) + " " + q.gap(1, 0) + " " + q.gap(0, 2) + " " + q.gap(0, 0) + " " + q.gap(2, 3));
        due("nearest of none", "-1 -1", () -> q.nearest(0) + " " + q.nearest(2));
        q.launch(2);
        due("with a height", "13 12", () -> q.gap(0, 2) + " " + q.gap(2, 3));
        q.launch(0);
        due("with two heights", "9 9", () -> q.gap(0, 2) + " " + q.gap(2, 0));
        q.undo();
        due("nearest", "2 2 -1", () -> q.nearest(0) + " " + q.nearest(1) + " " + q.nearest(2));
        q.launch(3);
        q.launch(4);
        due("the smallest on a tie, seen from above", "2 2 3 2 2", () -> q.nearest(0) + " " + q.nearest(1) + " " + q.nearest(2) + " " + q.nearest(3) + " " + q.nearest(4));
        q.letGo(2);
        due("one that drifts does not count", "3 3", () -> q.nearest(0) + " " + q.nearest(2));
        KiteQuarrel row = Checks.field("kite a 50 50;kite b 90 50;kite c 51 50;kite d 70 50;kite e 50 49;kite f 50 52;");
        for (int i = 0; i < 6; i++) row.launch(i);
        due("nearest of a row", "2 3 0 2 0 0", () -> row.nearest(0) + " " + row.nearest(1) + " " + row.nearest(2) + " " + row.nearest(3) + " " + row.nearest(4)
            + " " + row.nearest(5));
        for (int kite : new int[] {-1, 5, LEAST, MOST}) {
            Checks.refused("gap " + kite, q, Checks.INDEX, () -> q.gap(kite, 0));
            Checks.refused("gap to " + kite, q, Checks.INDEX, () -> q.gap(0, kite));
            Checks.refused("nearest " + kite, q, Checks.INDEX, () -> q.nearest(kite));
        }
        // a climbs to the top over (0,0); b lies at (199,199): the distance is 411
        q.launch(0);
        q.setWind(0, 0, 0);
        q.set(0, 99);
        q.set(2, 9);
        q.reel(0, -1);
        q.pull(0, 400);
        for (int n = 0; n < 70 && q.kite(0, 3) < 300; n++) {
            q.run(1);
            q.pull(0, Math.min(400, q.span(0) + 50));
        }
        due("the top", 300, () -> q.kite(0, 3));
        due("at most 400", 400, () -> q.gap(0, 1));
    }

    private static void upwind() {
        KiteQuarrel q = Checks.field("kite a 50 50 out 20;kite b 50 50;wind 0 -2 3;wind 21 1 0;");
        q.launch(0);
        due("above the flyer", 0, () -> q.upwind(0));
        q.walk(0, 49, 50);
        due("1 by -2 is upwind", 1, () -> q.upwind(0));
        q.walk(0, 51, 50);
        due("downwind", -1, () -> q.upwind(0));
        q.walk(0, 47, 48);
        due("across", 0, () -> q.upwind(0));
        q.walk(0, 47, 47);
        due("downwind by y", -1, () -> q.upwind(0));
        q.walk(0, 47, 49);
        due("upwind by both", 1, () -> q.upwind(0));
        Checks.refused("upwind of one that is down", q, Checks.STATE, () -> q.upwind(1));
        for (int kite : new int[] {-1, 2, LEAST, MOST}) Checks.refused("upwind " + kite, q, Checks.INDEX, () -> q.upwind(kite));
        q.walk(0, 0, 0);
        q.pull(0, 400);
        q.set(0, 99);
        q.set(1, 9);
        q.pull(0, 99);
        q.run(1);
        due("in the wind above", "true 47 -1", () -> (q.kite(0, 3) > 20) + " " + (q.kite(0, 1) - 1) + " " + q.upwind(0));
    }

    private static void sums() {
        KiteQuarrel q = crossed();
        String[] due = {"1", "95", "110", "40", "85", "90", "70", "0", "6", "33", "0", "0", "-3", "-3"};
        for (int what = 0; what <= 13; what++) {
            int w = what;
            due("sum " + w, due[w], () -> q.sum(w));
        }
        for (int what : new int[] {-1, 14, LEAST, MOST}) Checks.refused("sum " + what, q, Checks.ARGUMENT, () -> q.sum(what));
        KiteQuarrel none = new KiteQuarrel();
        due("sum of none", 0, () -> none.sum(12));
        Checks.refused("sum of none", none, Checks.ARGUMENT, () -> none.sum(14));
    }

    private static void inBox() {
        KiteQuarrel q = crossed();
        Object[][] rows = {
            {0, 0, 199, 199, 7}, {0, 0, 0, 0, 4}, {50, 50, 50, 50, 1}, {45, 50, 50, 60, 3}, {46, 50, 50, 60, 1}, {45, 51, 50, 60, 2}, {45, 50, 49, 60, 2},
            {45, 50, 50, 59, 1}, {1, 1, 44, 199, 0}, {199, 199, 199, 199, 0}};
        for (Object[] row : rows) {
            due("inBox " + java.util.Arrays.toString(row), row[4], () -> q.inBox((int) row[0], (int) row[1], (int) row[2], (int) row[3]));
        }
        int[][] wrong = {{-1, 0, 9, 9}, {0, -1, 9, 9}, {0, 0, -1, 9}, {0, 0, 9, -1}, {200, 0, 200, 9}, {0, 200, 9, 200}, {0, 0, 200, 9}, {0, 0, 9, 200},
            {5, 0, 4, 9}, {0, 5, 9, 4}, {LEAST, 0, MOST, 9}};
        for (int[] row : wrong) {
            Checks.refused("inBox " + java.util.Arrays.toString(row), q, Checks.ARGUMENT, () -> q.inBox(row[0], row[1], row[2], row[3]));
        }
        KiteQuarrel ten = many(10, "");
        ten.letGo(9);
        due("all ten, whatever they do", 1023, () -> ten.inBox(100, 100, 100, 100));
    }

    private static void left() {
        KiteQuarrel q = crossed();
        due("whole lines", "1.0 1.0 1.0", () -> q.left(0) + " " + q.left(1) + " " + q.left(2));
        q.run(1);
        due("worn lines", (float) 6 / (float) 9 + " 0.5", () -> q.left(0) + " " + q.left(1));
        q.set(4, 50);
        q.reel(0, 9);
        q.run(1);
        due("a cut line, worn by more than it has", "22 0.0", () -> q.kite(1, 10) + " " + q.left(1));
        KiteQuarrel weak = Checks.field("kite a 1 1 tough 1;kite b 1 1 tough 99;");
        due("whole lines, weak and tough", "1.0 1.0", () -> weak.left(0) + " " + weak.left(1));
        for (int kite : new int[] {-1, 3, LEAST, MOST}) Checks.refused("left " + kite, q, Checks.INDEX, () -> q.left(kite));
    }

    public static void main(String[] args) {
        kite();
        wind();
        spanAndSlack();
        crossings();
        placesOfCrossings();
        rubbing();
        threats();
        events();
        latestEvents();
        orderOfEvents();
        bestOfAll();
        points();
        leaderOnTie();
        picker();
        gapAndNearest();
        upwind();
        sums();
        inBox();
        left();
        Checks.end("QueriesTest");
    }
}
