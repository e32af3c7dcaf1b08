/** Fields of kites that tests begin with, and what they show, in few words. */
class Fields {
    static final int LEAST = Integer.MIN_VALUE, MOST = Integer.MAX_VALUE;

    Fields() {
    }

    static KiteQuarrel field(String text) {
        KiteQuarrel q = new KiteQuarrel();
        if (Checks.parse(q, text) < 0) {
            throw new IllegalStateException("error " + q.errorCode() + " at " + q.errorOffset() + " of " + text);
        }
        return q;
    }

    /** The first kites are launched, in the order of their numbers. */
    static KiteQuarrel launched(int many, String text) {
        KiteQuarrel q = field(text);
        for (int i = 0; i < many; i++) q.launch(i);
        return q;
    }

    /** Ten kites a to j at one place; as many as told are launched. */
    static KiteQuarrel ten(int many, String rest) {
        return launched(many, tenKites() + rest);
    }

    static String tenKites() {
        StringBuilder text = new StringBuilder();
        for (char c = 'a'; c <= 'j'; c++) text.append("kite ").append(c).append(" 100 100;");
        return text.toString();
    }

    /**
     * Nothing moves. Seen from above ann's line goes from (40,50) to (50,50), bob's from (45,40) to (45,60); the spans are
     * 22 and 28, the slacks 8 and 2, the heights at the crossing 10 - 4 and 10 - 1.
     */
    static KiteQuarrel crossed(String ann, String bob, String rest) {
        KiteQuarrel q = launched(2, "kite ann 50 50 " + ann + " out 30;kite bob 45 60 " + bob + " out 30;" + rest + "wind 0 0 0;slack 99;");
        q.walk(0, 40, 50);
        q.walk(1, 45, 40);
        return q;
    }

    /** Bob's line takes 2 wear a tick, and is cut by ann in the second one; ann's takes 3, and has 6 then of 9. */
    static KiteQuarrel bobIsCutInTwo() {
        return crossed("sharp 2 tough 9", "sharp 3 tough 4", "");
    }

    /** The lines of ten kites, each of which crosses and rubs each. */
    static KiteQuarrel tenCrossed(String rest) {
        StringBuilder text = new StringBuilder("reach 50;wind 0 0 0;slack 99;" + rest);
        for (int i = 0; i < 10; i++) text.append("kite kite").append((char) ('a' + i)).append("z ").append(10 + 18 * i).append(" 190 out 300;");
        KiteQuarrel q = launched(10, text.toString());
        for (int i = 0; i < 10; i++) q.walk(i, 190 - 18 * i, 10 + i);
        return q;
    }

    /** Of ten kites the last two alone fly, and rub: 8 at 20 with the slack 0, 9 at 19. */
    static KiteQuarrel lastTwo() {
        KiteQuarrel two = field("kite a 1 1;kite b 1 1;kite c 1 1;kite d 1 1;kite e 1 1;kite f 1 1;kite g 1 1;kite h 1 1;kite i 50 50 sharp 2 out 20;kite j 45 60 sharp 3 out 19;"
            + "wind 0 0 0;slack 99;reach 50;");
        two.launch(8);
        two.launch(9);
        two.walk(8, 40, 50);
        two.walk(9, 45, 40);
        two.pull(8, 22);
        two.pull(9, 30);
        return two;
    }

    /**
     * Kite k is in the state k: a flies, b is down, c drifts, d fell, e was picked up by b's flyer. An error, an output, a saved
     * state, two changes and a text in the buffer are there, so that a call can change them if it should not.
     */
    static KiteQuarrel five() {
        KiteQuarrel q = field("kite a 10 10 out 30;kite b 50 50 out 7;kite c 90 90 out 20;kite d 150 150 out 3;kite e 50 52 out 4;"
            + "wind 0 0 0;wind 100 1 1;slack 99;pick 5;");
        for (int i : new int[] {0, 2, 3, 4}) q.launch(i);
        for (int i : new int[] {2, 3, 4}) q.letGo(i);
        q.run(1);
        q.saveState();
        q.restoreState();
        q.set(1, 3);
        q.reel(2, 4);
        Checks.parse(q, "sink 0;");
        q.printKite(3);
        Checks.feed(q, "kite ab 1 2;");
        return q;
    }

    /** Kite 0 at the height 290 above its flyer, in no wind, with the reel -1, CLIMB 9, SLACK 99 and the slack 0. */
    static KiteQuarrel high(int x, int y, String rest) {
        KiteQuarrel q = launched(1, "kite a " + x + " " + y + " out 20;" + rest + "wind 0 0 0;slack 99;climb 9;");
        q.reel(0, -1);
        for (int height = 20; height < 290; height += 90) {
            q.pull(0, height + 100);
            q.run(10);
        }
        return q;
    }

    /** The kites are all down, the time is as told, and saved; nothing can be undone. */
    static KiteQuarrel late(int time, String text) {
        KiteQuarrel q = field(text);
        until(q, time);
        q.saveState();
        q.restoreState();
        return q;
    }

    static void until(KiteQuarrel q, int time) {
        for (int n = 0; n < 25 && time - q.count(2) >= 200; n++) q.run(200);
        if (q.count(2) < time) q.run(time - q.count(2));
    }

    // ---- what they show

    static String all(Object... parts) {
        StringBuilder s = new StringBuilder();
        for (Object part : parts) s.append(s.length() > 0 ? " " : "").append(part);
        return s.toString();
    }

    /** All fourteen numbers of a kite. */
    static String numbers(KiteQuarrel q, int kite) {
        StringBuilder s = new StringBuilder();
        for (int what = 0; what <= 13; what++) s.append(what > 0 ? " " : "").append(q.kite(kite, what));
        return s.toString();
    }

    /** State, x, y, height and length out. */
    static String place(KiteQuarrel q, int kite) {
        return all(q.kite(kite, 0), q.kite(kite, 1), q.kite(kite, 2), q.kite(kite, 3), q.kite(kite, 6));
    }

    static String states(KiteQuarrel q) {
        StringBuilder s = new StringBuilder();
        for (int kite = 0; kite < q.count(0); kite++) s.append(q.kite(kite, 0));
        return s.toString();
    }

    static String wind(KiteQuarrel q, int wind) {
        return all(q.wind(wind, 0), q.wind(wind, 1), q.wind(wind, 2), q.wind(wind, 3));
    }

    static String settings(KiteQuarrel q) {
        return all(q.setting(0), q.setting(1), q.setting(2), q.setting(3), q.setting(4), q.setting(5));
    }

    static String event(KiteQuarrel q, int event) {
        StringBuilder s = new StringBuilder();
        for (int what = 0; what <= 5; what++) s.append(what > 0 ? " " : "").append(q.event(event, what));
        return s.toString();
    }

    static String events(KiteQuarrel q) {
        q.printEvents();
        return Checks.output(q);
    }

    static String pairs(KiteQuarrel q) {
        q.printPairs();
        return Checks.output(q);
    }

    static String printed(KiteQuarrel q, int kite) {
        q.printKite(kite);
        return Checks.output(q);
    }

    static String crossing(KiteQuarrel q, int kite, int other) {
        return all(q.crossing(kite, other, 0), q.crossing(kite, other, 1), q.crossing(kite, other, 2), q.crossing(kite, other, 3), q.crossing(kite, other, 4));
    }

    static String error(KiteQuarrel q) {
        return q.errorCode() + " " + q.errorOffset();
    }

    static int found(KiteQuarrel q, String name) {
        q.truncate(0);
        Checks.feed(q, name);
        return q.find();
    }

    /** What a text is answered on a new object: the number of kites, or the code and the offset of the error. */
    static String parsed(String text) {
        KiteQuarrel q = new KiteQuarrel();
        int kites = Checks.parse(q, text);
        return kites == KiteQuarrel.NONE ? "error " + error(q) : kites + " kites";
    }

    /** All that can be seen, with what is undone, restored and parsed from the buffer; the object is used up by it. */
    static String everything(KiteQuarrel q) {
        StringBuilder s = new StringBuilder(Checks.seen(q));
        for (int n = 0; n < 10 && q.count(12) > 0; n++) s.append(" undone ").append(q.undo()).append(sums(q));
        s.append(" restored ").append(Checks.answerOf(q::restoreState)).append(sums(q));
        s.append(" parsed ").append(q.parse()).append(' ').append(error(q)).append(sums(q));
        return s.toString();
    }

    private static String sums(KiteQuarrel q) {
        StringBuilder s = new StringBuilder();
        for (int what = 0; what <= 13; what++) s.append(' ').append(q.sum(what));
        for (int what = 0; what <= 9; what++) s.append(' ').append(q.count(what));
        return s.append(' ').append(settings(q)).append(' ').append(wind(q, 0)).toString();
    }
}
