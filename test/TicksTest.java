/** Section 2 (a tick in its order) and promise 43 (run). */
public final class TicksTest {
    private static final int LEAST = Integer.MIN_VALUE, MOST = Integer.MAX_VALUE;

    private static void due(String what, Object want, Checks.Call call) {
        Checks.due(what, want, call);
    }

    /** State, x, y, height and length out. */
    private static String place(KiteQuarrel q, int kite) {
        return q.kite(kite, 0) + " " + q.kite(kite, 1) + " " + q.kite(kite, 2) + " " + q.kite(kite, 3) + " " + q.kite(kite, 6);
    }

    private static KiteQuarrel launched(String text) {
        KiteQuarrel q = Checks.field(text);
        q.launch(0);
        return q;
    }

    private static void behind(String text, int reel, int ticks, String want) {
        KiteQuarrel q = launched(text);
        q.reel(0, reel);
        q.run(ticks);
        due(text + " reel " + reel + " ticks " + ticks, want, () -> place(q, 0));
    }

    private static void lengthOut() {
        behind("kite a 50 50 out 30;wind 0 0 0;slack 99;", 9, 1, "0 50 50 20 39");
        behind("kite a 50 50 out 30;wind 0 0 0;slack 99;climb 0;", -9, 1, "0 50 50 20 21");
        behind("kite a 50 50 out 395;wind 0 0 0;slack 99;rise 0;sink 1;", 9, 1, "0 50 50 19 400");
        behind("kite a 50 50 out 396;wind 0 0 0;slack 99;sink 1;", 9, 9, "0 50 50 11 400");
        behind("kite a 50 50 out 5;wind 0 0 0;slack 99;climb 0;", -9, 1, "0 50 50 1 1");
        behind("kite a 50 50 out 10;wind 0 0 0;slack 99;climb 0;", -9, 1, "0 50 50 1 1");
        behind("kite a 50 50 out 11;wind 0 0 0;slack 99;climb 0;", -9, 1, "0 50 50 2 2");
    }

    private static void movedByTheWind() {
        // RISE 0, and slack enough, so that the height stays
        behind("kite a 50 50 out 90;wind 0 3 -2;slack 99;rise 0;", 0, 1, "0 53 48 20 90");
        behind("kite a 50 50 out 90;wind 0 3 -2;slack 99;rise 0;", 0, 4, "0 62 42 20 90");
        behind("kite a 197 1 out 90;wind 0 3 -2;slack 99;rise 0;", 0, 1, "0 199 0 20 90");
        behind("kite a 1 197 out 90;wind 0 -3 2;slack 99;rise 0;", 0, 1, "0 0 199 20 90");
        behind("kite a 1 197 out 90;wind 0 -3 3;slack 99;rise 0;", 0, 5, "0 0 199 20 90");
        // the wind of its own height: the greatest lowest height that is not above it
        behind("kite a 50 50 out 90;wind 0 3 0;wind 20 0 4;slack 99;rise 0;", 0, 1, "0 50 54 20 90");
        behind("kite a 50 50 out 90;wind 0 3 0;wind 21 0 4;slack 99;rise 0;", 0, 1, "0 53 50 20 90");
        behind("kite a 50 50 out 90;wind 0 3 0;wind 19 0 4;wind 20 5 0;wind 21 0 0;slack 99;rise 0;", 0, 1, "0 55 50 20 90");
    }

    private static void climbsAndSinks() {
        // slack 5 is at most SLACK 5, slack 6 is not
        behind("kite a 50 50 out 25;wind 0 0 0;sink 1;", 0, 1, "0 50 50 20 25");
        behind("kite a 50 50 out 26;wind 0 0 0;sink 1;", 0, 1, "0 50 50 19 26");
        behind("kite a 50 50 out 26;wind 0 0 0;sink 20;", 0, 1, "1 50 50 0 26");
        behind("kite a 50 50 out 99;wind 0 0 0;sink 7;", 0, 2, "0 50 50 6 99");
        behind("kite a 50 50 out 99;wind 0 0 0;sink 7;", 0, 3, "1 50 50 0 99");
        // RISE times the greater speed, also of a speed below 0
        behind("kite a 50 50 out 60;wind 0 1 -4;slack 99;rise 3;", 0, 1, "0 51 46 32 60");
        behind("kite a 50 50 out 60;wind 0 -5 4;slack 99;rise 1;", 0, 1, "0 45 54 25 60");
        behind("kite a 50 50 out 60;wind 0 0 0;slack 99;rise 9;climb 7;", -1, 1, "0 50 50 27 59");
        behind("kite a 50 50 out 60;wind 0 0 0;slack 99;rise 9;climb 7;", 0, 1, "0 50 50 20 60");
        behind("kite a 50 50 out 60;wind 0 0 0;slack 99;rise 9;climb 7;", 1, 1, "0 50 50 20 61");
        // a reel below 0 does not lift a kite with too much slack
        behind("kite a 50 50 out 60;wind 0 0 0;slack 9;climb 7;sink 3;", -1, 1, "0 50 50 17 59");
        // the force is that of the height before it climbs, the slack that behind the move
        behind("kite a 50 50 out 90;wind 0 2 0;wind 21 9 9;slack 99;rise 1;", 0, 2, "0 61 59 31 90");
        behind("kite a 50 50 out 30;wind 0 9 0;slack 9;rise 0;sink 1;", 0, 1, "0 59 50 20 30");
        behind("kite a 50 50 out 31;wind 0 9 0;slack 9;rise 0;sink 1;", 0, 1, "0 59 50 19 31");
        // the slack that decides is that behind the reel
        behind("kite a 50 50 out 25;wind 0 0 0;sink 1;", 1, 1, "0 50 50 19 26");
        KiteQuarrel q = launched("kite a 50 50 out 20;wind 0 9 0;slack 99;rise 9;");
        for (int n = 0; n < 6; n++) {
            q.walk(0, q.kite(0, 1), 50);
            q.pull(0, Math.min(400, q.kite(0, 3) + 99));
            q.run(1);
        }
        due("at most 300", 300, () -> q.kite(0, 3));
    }

    private static void pulledIn() {
        // the height goes first where several are the greatest, then x
        pulled(10, 10, 10, 17, "10 10 10");
        pulled(10, 10, 10, 16, "10 10 9");
        pulled(10, 10, 10, 15, "9 9 9");
        pulled(12, 12, 10, 19, "12 12 10");
        pulled(12, 12, 10, 18, "11 11 10");
        pulled(12, 12, 10, 17, "10 11 10");
        pulled(13, 13, 5, 18, "12 13 5");
        pulled(10, 12, 12, 18, "10 11 11");
        pulled(5, 13, 13, 18, "5 13 12");
        pulled(-10, -12, 12, 17, "-10 -11 10");
        pulled(-12, 3, 5, 12, "-11 3 5");
        pulled(3, -12, 5, 12, "3 -11 5");
        pulled(0, 30, 20, 1, "0 1 1");
        pulled(30, 0, 20, 1, "1 0 1");
        pulled(0, 0, 20, 1, "0 0 1");
        pulled(140, -40, 20, 400, "140 -40 20");
        pulled(140, -40, 20, 1, "1 -1 1");
    }

    /** A kite of a difference of x and y to its flyer, at a height, with a length out: the differences and the height behind a tick without wind. */
    private static void pulled(int dx, int dy, int height, int out, String want) {
        KiteQuarrel q = Checks.field("kite a " + (50 + Math.max(0, dx)) + " " + (50 + Math.max(0, dy)) + " out " + height + ";wind 0 0 0;slack 99;");
        q.launch(0);
        int flyerX = 50 + Math.max(0, dx) - dx, flyerY = 50 + Math.max(0, dy) - dy;
        q.walk(0, flyerX, flyerY);
        q.pull(0, out);
        if (q.slack(0) > 99) q.pull(0, q.span(0));
        q.run(1);
        due("pulled " + dx + " " + dy + " " + height + " out " + out, want, () -> (q.kite(0, 1) - flyerX) + " " + (q.kite(0, 2) - flyerY) + " " + q.kite(0, 3));
    }

    private static void wentDown() {
        KiteQuarrel q = launched("kite a 50 50 out 20;kite b 50 50;wind 0 9 0;slack 0;rise 0;sink 9;");
        q.walk(0, 52, 50);
        q.pull(0, 400);
        q.run(3);
        due("sunk to the ground it is down", "1 77 50 0 400", () -> place(q, 0));
        due("an event where it lies", "2 0 0 -1 77 50", () -> {
            StringBuilder s = new StringBuilder();
            for (int what = 0; what <= 5; what++) s.append(q.event(1, what)).append(' ');
            return s.toString().trim();
        });
        q.reel(0, 3);
        q.run(9);
        due("it stays as it is", "1 77 50 0 400", () -> place(q, 0));
        due("no second event", 2, () -> q.count(8));
    }

    private static KiteQuarrel crossed(String ann, String bob, String rest) {
        KiteQuarrel q = Checks.field("kite ann 50 50 " + ann + " out 30;kite bob 45 60 " + bob + " out 30;" + rest + "wind 0 0 0;slack 99;");
        q.launch(0);
        q.launch(1);
        q.walk(0, 40, 50);
        q.walk(1, 45, 40);
        return q;
    }

    private static void wear() {
        KiteQuarrel q = crossed("sharp 2 tough 99", "sharp 3 tough 99", "reach 3;");
        q.run(1);
        due("sharpness of the other", "3 2", () -> q.kite(0, 10) + " " + q.kite(1, 10));
        q.reel(0, 1);
        q.reel(1, -2);
        q.set(2, 0);
        due("wear to come", "9 4", () -> q.wearNow(0) + " " + q.wearNow(1));
        q.set(4, 50);
        q.run(1);
        due("with the reels", "12 6", () -> q.kite(0, 10) + " " + q.kite(1, 10));
        KiteQuarrel apart = crossed("sharp 2 tough 99", "sharp 3 tough 99", "reach 2;");
        apart.run(9);
        due("beyond the reach", "0 0", () -> apart.kite(0, 10) + " " + apart.kite(1, 10));
        KiteQuarrel toughness = crossed("sharp 2 tough 3", "sharp 3 tough 3", "");
        due("the wear that is the toughness cuts", 1, () -> toughness.run(1));
        due("the wear below does not", "2 0", () -> toughness.kite(0, 0) + " " + toughness.kite(1, 0));
        due("a line that is cut rubs no more", "2 0", () -> toughness.kiteIn(1, 10, 9) + " " + toughness.cutsIn(99));
        KiteQuarrel each = crossed("sharp 2 tough 3", "sharp 3 tough 2", "");
        due("two cut one another", 2, () -> each.run(1));
        due("each gets a point", "1 1 1 0", () -> each.kite(0, 11) + " " + each.kite(1, 11) + " " + each.kite(0, 13) + " " + each.kite(1, 13));
        due("neither moves in this tick", "20 20", () -> each.kite(0, 3) + " " + each.kite(1, 3));
        each.run(1);
        due("both sink from the next one on", "16 16", () -> each.kite(0, 3) + " " + each.kite(1, 3));
        KiteQuarrel moved = crossed("tough 9", "tough 9", "rise 0;");
        moved.letGo(1);
        moved.run(3);
        due("one that drifts has no line to rub", 0, () -> moved.kite(0, 10));
    }

    /** Two pairs of lines in one tick: each cut is told with the place of its own crossing. */
    private static void cutsOfTwoPairs() {
        KiteQuarrel q = Checks.field("kite a 50 50 tough 1 out 30;kite b 45 60 tough 1 out 30;kite c 150 50 tough 1 out 30;kite d 145 60 tough 1 out 30;"
            + "wind 0 0 0;slack 99;");
        for (int i = 0; i < 4; i++) q.launch(i);
        q.walk(0, 40, 50);
        q.walk(1, 45, 40);
        q.walk(2, 140, 50);
        q.walk(3, 145, 40);
        due("four cuts", 4, () -> q.run(1));
        due("each at its place", "45 1 45 0 145 3 145 2", () -> {
            StringBuilder s = new StringBuilder();
            for (int e = 4; e < 8; e++) s.append(e > 4 ? " " : "").append(q.event(e, 4)).append(' ').append(q.event(e, 3));
            return s.toString();
        });
    }

    private static void whoCuts() {
        String text = "kite a 20 50 sharp A out 60;kite b 30 50 sharp B out 60;kite c 60 45 sharp 9 tough T out 60;"
            + "kite d 40 50 sharp D out 60;wind 0 0 0;slack 99;reach 50;";
        Object[][] rows = {
            {"A1 B2 D3 T6", 3}, {"A3 B2 D3 T8", 0}, {"A1 B3 D3 T7", 1}, {"A0 B0 D1 T1", 3}, {"A9 B0 D0 T9", 0},
            // in the tick of the cut alone: 2 of b each tick are more than what d brings, in both ticks
            {"A0 B2 D1 T5", 1}};
        for (Object[] row : rows) {
            String t = text;
            for (String part : ((String) row[0]).split(" ")) t = t.replace(" " + part.charAt(0) + " ", " " + part.substring(1) + " ");
            KiteQuarrel q = Checks.field(t.replace(" T ", " "));
            for (int i = 0; i < 4; i++) q.launch(i);
            q.walk(0, 20, 40);
            q.walk(1, 30, 40);
            q.walk(2, 10, 45);
            q.walk(3, 40, 40);
            q.run(2);
            due("cut by, of " + row[0], row[1], () -> q.kite(2, 13));
            due("a point for it, of " + row[0], true, () -> q.kite((int) row[1], 11) >= 1);
        }
        // d brought the most wear before, b the most in the tick of the cut
        KiteQuarrel q = Checks.field("kite b 30 50 sharp 1 out 60;kite c 60 45 sharp 0 tough 9 out 60;kite d 40 50 sharp 8 out 60;wind 0 0 0;slack 99;reach 50;");
        for (int i = 0; i < 3; i++) q.launch(i);
        q.walk(0, 30, 40);
        q.walk(1, 10, 45);
        q.walk(2, 40, 40);
        q.pull(0, 1);
        q.pull(0, 60);
        q.walk(0, 30, 48);
        q.run(1);
        due("wear of d alone", 8, () -> q.kite(1, 10));
        q.walk(0, 30, 40);
        q.letGo(2);
        q.run(1);
        due("cut by b", "9 0 1 0", () -> q.kite(1, 10) + " " + q.kite(1, 13) + " " + q.kite(0, 11) + " " + q.kite(2, 11));
    }

    private static void drifting() {
        KiteQuarrel q = Checks.field("kite a 50 50 out 20;kite b 0 199 out 3;wind 0 -1 1;wind 10 2 -3;sink 7;pick 0;");
        q.launch(0);
        q.launch(1);
        q.letGo(0);
        q.letGo(1);
        q.run(1);
        due("by the wind at its height", "2 52 47 13 20", () -> place(q, 0));
        due("at the edge of the field, and down", "3 0 199 0 3", () -> place(q, 1));
        q.reel(0, 5);
        q.run(1);
        due("the wind above once more, no reel", "2 54 44 6 20", () -> place(q, 0));
        q.run(1);
        due("the wind below", "3 53 45 0 20", () -> place(q, 0));
        q.run(5);
        due("it lies there", "3 53 45 0 20", () -> place(q, 0));
        due("events", "0l0 0l1 0f1 2f0", () -> {
            q.printEvents();
            return Checks.output(q);
        });
    }

    private static void pickedUp() {
        // a fell at (50,50); its own flyer does not pick it up; others at distances by x and y
        KiteQuarrel q = Checks.field("kite a 50 50 out 4;kite b 60 50;kite c 50 60;kite d 40 41;kite e 51 61;wind 0 0 0;pick 10;");
        q.launch(0);
        q.letGo(0);
        due("by the least sum, the smallest number", "4 1 2 0", () -> q.kiteIn(0, 0, 1) + " " + q.kiteIn(0, 12, 1) + " " + q.kiteIn(1, 11, 1) + " " + q.kiteIn(2, 11, 1));
        q.walk(1, 61, 50);
        due("beyond PICK", 2, () -> q.kiteIn(0, 12, 1));
        q.walk(3, 41, 42);
        due("still a greater sum", 2, () -> q.kiteIn(0, 12, 1));
        q.walk(2, 50, 61);
        due("the sum decides, each difference is bounded", 3, () -> q.kiteIn(0, 12, 1));
        q.walk(3, 0, 0);
        q.run(1);
        due("nobody", "3 -1", () -> q.kite(0, 0) + " " + q.kite(0, 12));
        q.run(3);
        q.walk(4, 51, 60);
        q.run(1);
        due("later, when somebody comes", "4 4 2", () -> q.kite(0, 0) + " " + q.kite(0, 12) + " " + q.kite(4, 11));
        due("the event", "4 3 0 4 50 50", () -> q.event(2, 0) + " " + q.event(2, 1) + " " + q.event(2, 2) + " " + q.event(2, 3) + " " + q.event(2, 4) + " " + q.event(2, 5));
        q.run(9);
        due("once", 2, () -> q.kite(4, 11));
        // two fall beside one another: neither flyer can pick up
        KiteQuarrel two = Checks.field("kite a 50 50 out 4;kite b 51 50 out 4;wind 0 0 0;");
        two.launch(0);
        two.launch(1);
        two.letGo(0);
        two.letGo(1);
        two.run(3);
        due("a flyer whose kite fell does not pick up", "3 3", () -> two.kite(0, 0) + " " + two.kite(1, 0));
        // b's kite comes down in the tick in which a's falls
        KiteQuarrel down = Checks.field("kite a 50 50 out 4;kite b 51 50 out 4;wind 0 0 0;slack 0;");
        down.launch(0);
        down.launch(1);
        down.letGo(0);
        down.pull(1, 50);
        down.run(1);
        due("one that is down by then does", "4 1 1", () -> down.kite(0, 0) + " " + down.kite(0, 12) + " " + down.kite(1, 0));
        // two that fell are picked up by one flyer
        KiteQuarrel both = Checks.field("kite a 50 50 out 4;kite b 51 50 out 4;kite c 52 50;wind 0 0 0;");
        both.launch(0);
        both.launch(1);
        both.letGo(0);
        both.letGo(1);
        both.run(1);
        due("both", "4 4 4", () -> both.kite(0, 0) + " " + both.kite(1, 0) + " " + both.kite(2, 11));
    }

    private static void run() {
        KiteQuarrel q = crossed("sharp 2 tough 9", "sharp 3 tough 4", "");
        due("run 1", "0 1 5", () -> q.run(1) + " " + q.count(2) + " " + q.count(12));
        due("run 1 to the cut", "1 2 6", () -> q.run(1) + " " + q.count(2) + " " + q.count(12));
        due("no further cut", "0 202", () -> q.run(200) + " " + q.count(2));
        for (int ticks : new int[] {-1, 0, 201, LEAST, MOST}) Checks.refused("run " + ticks, q, Checks.ARGUMENT, () -> q.run(ticks));
        for (int n = 0; n < 23; n++) q.run(200);
        due("late", 4802, () -> q.count(2));
        Checks.refused("beyond 5000", q, Checks.STATE, () -> q.run(199));
        Checks.refused("an argument out of range comes first", q, Checks.ARGUMENT, () -> q.run(201));
        due("to 5000", "0 5000", () -> q.run(198) + " " + q.count(2));
        Checks.refused("beyond 5000 by one", q, Checks.STATE, () -> q.run(1));
        Checks.refused("still the argument first", q, Checks.ARGUMENT, () -> q.run(0));
        KiteQuarrel none = new KiteQuarrel();
        due("run of none", "0 200", () -> none.run(200) + " " + none.count(2));
    }

    public static void main(String[] args) {
        lengthOut();
        movedByTheWind();
        climbsAndSinks();
        pulledIn();
        wentDown();
        wear();
        cutsOfTwoPairs();
        whoCuts();
        drifting();
        pickedUp();
        run();
        Checks.end("TicksTest");
    }
}
