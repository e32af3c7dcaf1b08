/** Promises 53 to 58: output and the saved state. */
public final class OutputTest {
    private static final int LEAST = Integer.MIN_VALUE, MOST = Integer.MAX_VALUE;

    private static void due(String what, Object want, Checks.Call call) {
        Checks.due(what, want, call);
    }

    /** A print answers the number of bytes that it wrote in place of the text before. */
    private static void prints(String what, KiteQuarrel q, String text, Checks.Call call) {
        due(what + " bytes", text.length(), call);
        due(what, text, () -> Checks.output(q));
        due(what + " behind the end", -1, () -> q.outputByte(text.length()));
    }

    private static KiteQuarrel crossed() {
        KiteQuarrel q = Checks.field("kite ann 50 50 sharp 2 tough 9 out 30;kite bob 45 60 sharp 3 tough 4 out 30;kite cyclop 0 199;wind 0 0 0;slack 99;");
        q.launch(0);
        q.launch(1);
        q.walk(0, 40, 50);
        q.walk(1, 45, 40);
        return q;
    }

    private static void printKite() {
        KiteQuarrel q = crossed();
        prints("flies", q, "ann 50,50,20 flies", () -> q.printKite(0));
        prints("down", q, "cyclop 0,199,0 down", () -> q.printKite(2));
        q.run(2);
        prints("drifts", q, "bob 45,60,20 drifts", () -> q.printKite(1));
        q.set(5, 0);
        q.run(4);
        prints("drifts low", q, "bob 45,60,4 drifts", () -> q.printKite(1));
        q.run(1);
        prints("fell", q, "bob 45,60,0 fell", () -> q.printKite(1));
        q.set(5, 50);
        q.run(1);
        prints("picked", q, "bob 45,60,0 picked", () -> q.printKite(1));
        q.walk(2, 100, 9);
        prints("a hundred", q, "cyclop 100,9,0 down", () -> q.printKite(2));
        for (int kite : new int[] {-1, 3, LEAST, MOST}) Checks.refused("printKite " + kite, q, Checks.INDEX, () -> q.printKite(kite));
    }

    private static void printPairs() {
        KiteQuarrel q = new KiteQuarrel();
        prints("no kites", q, "-", q::printPairs);
        KiteQuarrel two = crossed();
        prints("one that rubs", two, "ann*bob", two::printPairs);
        two.set(4, 2);
        prints("one that does not", two, "annxbob", two::printPairs);
        two.walk(0, 46, 50);
        prints("none", two, "-", two::printPairs);
        KiteQuarrel five = Checks.field("kite a 20 50 out 60;kite bb 30 50 out 60;kite c 60 45 out 60;kite xxx 40 50 out 60;kite e 50 50 out 25;wind 0 0 0;slack 99;reach 2;");
        for (int i = 0; i < 5; i++) five.launch(i);
        five.walk(0, 20, 40);
        five.walk(1, 30, 40);
        five.walk(2, 10, 45);
        five.walk(3, 40, 40);
        five.walk(4, 50, 40);
        prints("four", five, pairsByCalls(five, "a", "bb", "c", "xxx", "e"), five::printPairs);
        due("by the numbers", "a*c bbxc cxxxx cxe", () -> Checks.output(five));
    }

    private static String pairsByCalls(KiteQuarrel q, String... names) {
        StringBuilder s = new StringBuilder();
        for (int i = 0; i < names.length; i++) {
            for (int j = i + 1; j < names.length; j++) {
                if (q.crosses(i, j)) {
                    s.append(s.length() > 0 ? " " : "").append(names[i]).append((q.rubs(i) >> j & 1) == 1 ? "*" : "x").append(names[j]);
                }
            }
        }
        return s.length() == 0 ? "-" : s.toString();
    }

    /** Ten lines through one another: with names of six letters the longest text that there can be. */
    private static void allPairs() {
        StringBuilder text = new StringBuilder("reach 50;pick 0;");
        int[] x = new int[10], y = new int[10];
        String[] names = new String[10];
        for (int i = 0; i < 10; i++) {
            // ends of the ten lines on both sides of a field, in turned order: each crosses each
            x[i] = 10 + 18 * i;
            y[i] = 190;
            names[i] = "kite" + (char) ('a' + i) + "z";
            text.append("kite ").append(names[i]).append(' ').append(x[i]).append(' ').append(y[i]).append(" out 300;");
        }
        KiteQuarrel q = Checks.field(text.toString());
        for (int i = 0; i < 10; i++) q.launch(i);
        for (int i = 0; i < 10; i++) q.walk(i, 190 - 18 * i, 10 + i);
        due("all cross", "45 45", () -> q.count(10) + " " + q.count(11));
        prints("all pairs", q, pairsByCalls(q, names), q::printPairs);
        due("bytes", 45 * 14 - 1, q::printPairs);
    }

    private static void printEvents() {
        KiteQuarrel q = new KiteQuarrel();
        prints("no events", q, "-", q::printEvents);
        KiteQuarrel two = crossed();
        prints("launches", two, "0l0 0l1", two::printEvents);
        two.run(7);
        prints("a cut, a fall, a picking up", two, "0l0 0l1 1c1/0 6f1 6p1/0", two::printEvents);
        two.run(93);
        two.set(0, 0);
        two.set(3, 20);
        two.run(1);
        prints("one down", two, "0l0 0l1 1c1/0 6f1 6p1/0 100d0", two::printEvents);
        for (int n = 0; n < 24; n++) two.run(200);
        for (int n = 0; n < 9; n++) {
            two.launch(0);
            two.letGo(0);
            two.run(1);
            two.restring(two.kite(0, 0) == 4 ? 0 : 2, 1, 1);
            if (two.kite(0, 0) == 3) two.walk(2, two.kite(0, 1), two.kite(0, 2));
            if (two.kite(0, 0) == 3) two.run(1);
            if (two.kite(0, 0) == 4) two.restring(0, 1, 1);
        }
        due("twelve", 12, () -> two.count(8));
        StringBuilder want = new StringBuilder();
        for (int e = 0; e < 12; e++) {
            want.append(e > 0 ? " " : "").append(two.event(e, 0)).append("dcfpl".charAt(two.event(e, 1))).append(two.event(e, 2));
            if (two.event(e, 3) != -1) want.append('/').append(two.event(e, 3));
        }
        prints("late events", two, want.toString(), two::printEvents);
        due("of four digits", true, () -> Checks.output(two).matches("49\\d\\d.*"));
    }

    private static void outputByte() {
        KiteQuarrel q = crossed();
        due("no output at first", "-1 -1 -1", () -> q.outputByte(0) + " " + q.outputByte(-1) + " " + q.outputByte(MOST));
        q.printKite(1);
        due("bytes", "98 111 32", () -> q.outputByte(0) + " " + q.outputByte(1) + " " + q.outputByte(3));
        due("no such byte", "-1 -1 -1 -1", () -> q.outputByte(-1) + " " + q.outputByte(18) + " " + q.outputByte(LEAST) + " " + q.outputByte(MOST));
        due("the last byte", (int) 's', () -> q.outputByte(17));
        q.printPairs();
        due("nothing of the text before", -1, () -> q.outputByte(7));
        q.saveState();
        q.reel(0, 1);
        q.undo();
        q.restoreState();
        Checks.parse(q, "");
        due("it stays", "ann*bob", () -> Checks.output(q));
        Checks.parse(q, "?");
        q.find();
        due("it stays", "ann*bob", () -> Checks.output(q));
    }

    private static void savedState() {
        KiteQuarrel q = crossed();
        Checks.refused("nothing saved", q, Checks.STATE, q::restoreState);
        q.run(1);
        int changes = q.count(12);
        due("saveState", 1, q::saveState);
        due("no change", changes, () -> q.count(12));
        String saved = seenBut(q);
        q.run(6);
        q.set(0, 3);
        q.setWind(0, 4, 4);
        q.restring(1, 1, 1);
        q.launch(1);
        q.printKite(0);
        Checks.parse(q, "x");
        Checks.feed(q, "cyclop");
        due("restoreState", 1, q::restoreState);
        due("all as it was", saved, () -> seenBut(q));
        due("but the error, the buffer and the output", "1 0 6 ann", () -> q.errorCode() + " " + q.errorOffset() + " " + Checks.bufferLength(q) + " "
            + Checks.output(q).substring(0, 3));
        Checks.refused("nothing can be undone", q, Checks.STATE, q::undo);
        q.run(9);
        q.reel(0, 4);
        due("it stays saved", 1, q::restoreState);
        due("all as it was once more", saved, () -> seenBut(q));
        due("restoring is no change", 0, () -> q.count(12));
        q.reel(2, 7);
        q.run(1);
        due("in place of the earlier one", 2, q::saveState);
        due("changes can still be undone", 1, q::undo);
        due("restored", "2 7 2", () -> q.restoreState() + " " + q.kite(2, 7) + " " + q.count(2));
        q.truncate(0);
        Checks.parse(q, "");
        Checks.refused("parse forgets it", q, Checks.STATE, q::restoreState);
        due("saved once more", 0, q::saveState);
        Checks.parse(q, "kite");
        due("a faulty text does not", 0, q::restoreState);
    }

    /** What is seen of the field but for the changes, the error, the buffer and the output. */
    private static String seenBut(KiteQuarrel q) {
        StringBuilder s = new StringBuilder();
        for (int what = 0; what <= 11; what++) s.append(q.count(what)).append(' ');
        for (int what = 0; what <= 5; what++) s.append(q.setting(what)).append(' ');
        String all = Checks.seen(q);
        return s.append(all, all.indexOf(" winds"), all.indexOf(" output ")).toString();
    }

    public static void main(String[] args) {
        printKite();
        printPairs();
        allPairs();
        printEvents();
        outputByte();
        savedState();
        Checks.end("OutputTest");
    }
}
