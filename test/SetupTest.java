/** Promises 1 to 9, and section 4: a new object, the input buffer, setup texts and their errors, counts, settings, names. */
public final class SetupTest {
    private static void due(String what, Object want, Checks.Call call) {
        Checks.due(what, want, call);
    }

    private static void newObject() {
        KiteQuarrel q = new KiteQuarrel();
        int[] counts = {0, 1, 0, 0, 0, 0, 0, 0, 0, 0, 0, 0, 0};
        for (int what = 0; what < counts.length; what++) {
            int w = what;
            due("new: count " + w, counts[w], () -> q.count(w));
        }
        int[] settings = {5, 2, 3, 4, 3, 10};
        for (int what = 0; what < settings.length; what++) {
            int w = what;
            due("new: setting " + w, settings[w], () -> q.setting(w));
        }
        int[] wind = {0, 3, 0, 3};
        for (int what = 0; what < wind.length; what++) {
            int w = what;
            due("new: wind " + w, wind[w], () -> q.wind(0, w));
        }
        due("new: wind 1", Checks.INDEX, () -> q.wind(1, 0));
        due("new: kite 0", Checks.INDEX, () -> q.kite(0, 0));
        due("new: buffer", 0, () -> Checks.bufferLength(q));
        due("new: error", "0 -1", () -> q.errorCode() + " " + q.errorOffset());
        due("new: output", -1, () -> q.outputByte(0));
        due("new: undo", Checks.STATE, q::undo);
        due("new: restoreState", Checks.STATE, q::restoreState);
    }

    private static void feedAndTruncate() {
        KiteQuarrel q = new KiteQuarrel();
        // the four bytes of each number, the most significant one first: "kite", " ab ", "1 2 ", "out ", "7;\n "
        due("feed", 20, () -> q.feed(0x6b697465, 0x20616220, 0x31203220, 0x6f757420, 0x373b0a20));
        due("parse of what was fed", 1, q::parse);
        due("x, y, out", "1 2 7", () -> q.kite(0, 1) + " " + q.kite(0, 2) + " " + q.kite(0, 6));
        due("name", 13, () -> q.printKite(0));
        due("name", "ab 1,2,0 down", () -> Checks.output(q).substring(0, q.printKite(0)));
        for (int n = 1; n <= 35; n++) {
            int length = 20 * n;
            due("feed " + n, length, () -> q.feed(-1, -1, -1, -1, -1));
        }
        due("feed beyond 700", -1, () -> q.feed(0, 0, 0, 0, 0));
        due("the buffer is kept", 700, () -> Checks.bufferLength(q));
        due("truncate -1", false, () -> q.truncate(-1));
        due("truncate 701", false, () -> q.truncate(701));
        due("truncate least int", false, () -> q.truncate(Integer.MIN_VALUE));
        due("the buffer is kept", 700, () -> Checks.bufferLength(q));
        due("truncate 700", true, () -> q.truncate(700));
        due("truncate 681", true, () -> q.truncate(681));
        due("feed beyond 700 by one", -1, () -> q.feed(0, 0, 0, 0, 0));
        due("truncate 680", true, () -> q.truncate(680));
        due("feed to 700", 700, () -> q.feed(0, 0, 0, 0, 0));
        due("truncate 0", true, () -> q.truncate(0));
        due("truncate 1 of none", false, () -> q.truncate(1));
        due("the bytes before stay", 1, () -> {
            Checks.feed(q, "kite ab 3 4;zzzz");
            q.truncate(12);
            return q.parse();
        });
    }

    private static void parsed() {
        KiteQuarrel q = new KiteQuarrel();
        due("the empty text", 0, q::parse);
        due("blanks alone", 0, () -> Checks.parse(q, " \n \n"));
        due("all statements", 3, () -> Checks.parse(q, "kite a 0 199;kite bbbbbb 199 0 sharp 0 tough 1 out 1;kite cc 007 08 sharp 9 tough 99 out 400;"
            + "wind 0 -9 9;wind 1 - 0 0;wind 299 9 -\n9;wind 300 0 0;slack 0;rise 0;climb 0;sink 1;reach 0;pick 0;"));
        due("buffer is empty", 0, () -> Checks.bufferLength(q));
        int[][] kites = {
            {1, 0, 199, 0, 0, 199, 10, 0, 1, 20, 0, 0, -1, -1},
            {1, 199, 0, 0, 199, 0, 1, 0, 0, 1, 0, 0, -1, -1},
            {1, 7, 8, 0, 7, 8, 400, 0, 9, 99, 0, 0, -1, -1}};
        for (int kite = 0; kite < 3; kite++) {
            for (int what = 0; what < 14; what++) {
                int k = kite, w = what;
                due("kite " + k + " " + w, kites[k][w], () -> q.kite(k, w));
            }
        }
        int[][] winds = {{0, -9, 9, 9}, {1, 0, 0, 0}, {299, 9, -9, 9}, {300, 0, 0, 0}};
        for (int wind = 0; wind < 4; wind++) {
            for (int what = 0; what < 4; what++) {
                int i = wind, w = what;
                due("wind " + i + " " + w, winds[i][w], () -> q.wind(i, w));
            }
        }
        int[] settings = {0, 0, 0, 1, 0, 0};
        for (int what = 0; what < 6; what++) {
            int w = what;
            due("least setting " + w, settings[w], () -> q.setting(w));
        }
        due("most settings", 0, () -> Checks.parse(q, "pick 50;reach 50;sink 20;climb 9;rise 9;slack 99;"));
        int[] most = {99, 9, 9, 20, 50, 50};
        for (int what = 0; what < 6; what++) {
            int w = what;
            due("most setting " + w, most[w], () -> q.setting(w));
        }
        due("the wind without a statement", "1 0 3 0", () -> q.count(1) + " " + q.wind(0, 0) + " " + q.wind(0, 1) + " " + q.wind(0, 2));
        due("settings without statements", "5 2 3 4 3 10", () -> {
            Checks.parse(q, "");
            return q.setting(0) + " " + q.setting(1) + " " + q.setting(2) + " " + q.setting(3) + " " + q.setting(4) + " " + q.setting(5);
        });
        due("no blanks where tokens differ", 1, () -> Checks.parse(q, "kite\na1 2sharp3tough4out5;wind 0-1-2;"));
        due("read so", "1 2 3 4 5 -1 -2", () -> q.kite(0, 1) + " " + q.kite(0, 2) + " " + q.kite(0, 8) + " " + q.kite(0, 9) + " " + q.kite(0, 6)
            + " " + q.wind(0, 1) + " " + q.wind(0, 2));
        due("ten kites", 10, () -> Checks.parse(q, tenKites()));
        due("names that only begin as a quoted word", 2, () -> Checks.parse(q, "kite kit 0 0;kite kites 0 0;"));
    }

    private static String tenKites() {
        StringBuilder text = new StringBuilder();
        for (char c = 'a'; c <= 'j'; c++) text.append("kite ").append(c).append(" 1 1;");
        return text.toString();
    }

    private static void parseStartsAnew() {
        KiteQuarrel q = Checks.field("kite a 50 50 tough 1;kite b 50 50;");
        q.launch(0);
        q.launch(1);
        q.run(3);
        q.set(0, 9);
        q.saveState();
        q.printKite(1);
        String output = Checks.output(q);
        String before = Checks.seen(q);
        due("a faulty text", -1, () -> Checks.parse(q, "kite c 1 1;kite d"));
        due("keeps all but the error", before.replace(" 0 -1 winds", " 1 17 winds"), () -> Checks.seen(q));
        due("keeps the changes", "3 4", () -> {
            int left = q.undo();
            return left + " " + (q.count(12) + 1);
        });
        due("keeps the saved state", 3, q::restoreState);
        q.reel(0, 5);
        q.reel(1, 5);
        due("a good text", 1, () -> Checks.parse(q, "kite z 5 6;"));
        due("error is gone", "0 -1", () -> q.errorCode() + " " + q.errorOffset());
        int[] counts = {1, 1, 0, 0, 1, 0, 0, 0, 0, 0, 0, 0, 0};
        for (int what = 0; what < counts.length; what++) {
            int w = what;
            due("anew: count " + w, counts[w], () -> q.count(w));
        }
        due("anew: SLACK", 5, () -> q.setting(0));
        due("the output is kept", output, () -> Checks.output(q));
        due("nothing is saved", Checks.STATE, q::restoreState);
        due("nothing can be undone", Checks.STATE, q::undo);
        due("names are new", -1, () -> {
            Checks.feed(q, "a");
            return q.find();
        });
    }

    /** Behind a field of ten that fly and cross, one of two: nothing is left of the others. */
    private static void fewerThanBefore() {
        StringBuilder text = new StringBuilder("reach 50;");
        for (int i = 0; i < 10; i++) text.append("kite ").append((char) ('a' + i)).append(' ').append(10 + 18 * i).append(" 190 out 300;");
        KiteQuarrel q = Checks.field(text.toString());
        for (int i = 0; i < 10; i++) q.launch(i);
        for (int i = 0; i < 10; i++) q.walk(i, 190 - 18 * i, 10 + i);
        due("each crosses each", "45 45 1022 9", () -> q.count(10) + " " + q.count(11) + " " + q.rubs(0) + " " + q.wearNow(0));
        q.saveState();
        due("two kites", 2, () -> Checks.parse(q, "kite y 100 100 out 300;kite z 82 190 out 300;"));
        q.launch(0);
        q.walk(0, 106, 14);
        due("they alone", "0 0 0 0 0 0", () -> q.count(10) + " " + q.count(11) + " " + q.rubs(0) + " " + q.wearNow(0) + " " + q.highest() + " " + q.tautest());
        due("they alone", "-1 0 20.0 -1 1 3", () -> q.threat(0) + " " + q.spread() + " " + q.meanHeight() + " " + q.nearest(0) + " " + q.rank(1) + " " + q.inBox(0, 0, 199, 199));
        due("they alone", "1 -1 0", () -> q.sum(0) + " " + q.leader() + " " + q.cutsIn(50));
        q.printPairs();
        due("they alone", "-", () -> Checks.output(q));
        Checks.feed(q, "c");
        due("no name of before", -1, q::find);
    }

    /** Each row: the text, the code, the offset. */
    private static void errors() {
        String ten = tenKites();
        Object[][] rows = {
            {"x", 1, 0}, {";", 1, 0}, {"7", 1, 0}, {"-", 1, 0}, {" \n sharp", 1, 3}, {"kites a 1 1;", 1, 0}, {"mite a 1 1;", 1, 0}, {"lick 1;", 1, 0}, {"Kite a 1 1;", 1, 0}, {"\t", 1, 0},
            {"kite", 1, 4}, {"kite  ", 1, 6}, {"kite a", 1, 6}, {"kite a 1", 1, 8}, {"kite a 1 2", 1, 10}, {"kite a 1 2\n", 1, 11},
            {"kite a 1 2 sharp", 1, 16}, {"kite a 1 2 sharp;", 1, 16}, {"kite a 1 2 out", 1, 14}, {"kite a 1 2 3;", 1, 11},
            {"kite 1 2 3;", 1, 5}, {"kite abcdefg 1 2;", 1, 5}, {"kite a 1 2 sharp 1 sharp 2;", 1, 19}, {"kite a 1 2 tough 1 sharp 2;", 1, 19},
            {"kite a 1 2 out 1 tough 2;", 1, 17}, {"kite a -1 2;", 1, 7}, {"kite a 1 -2;", 1, 9}, {"kite a 1 2 sharp -1;", 1, 17},
            {"kite kite 1 2;", 1, 5}, {"kite sharp 1 2;", 1, 5}, {"kite tough 1 2;", 1, 5}, {"kite out 1 2;", 1, 5}, {"kite wind 1 2;", 1, 5},
            {"kite slack 1 2;", 1, 5}, {"kite rise 1 2;", 1, 5}, {"kite climb 1 2;", 1, 5}, {"kite sink 1 2;", 1, 5}, {"kite reach 1 2;", 1, 5},
            {"kite pick 1 2;", 1, 5}, {"kite a 200 0;", 2, 7}, {"kite a 0 200;", 2, 9}, {"kite a 9999 0;", 2, 7}, {"kite a 10000 0;", 1, 7},
            {"kite a 00000 0;", 1, 7}, {"kite a 1 2 sharp 10;", 2, 17}, {"kite a 1 2 tough 0;", 2, 17}, {"kite a 1 2 tough 100;", 2, 17},
            {"kite a 1 2 out 0;", 2, 15}, {"kite a 1 2 out 401;", 2, 15}, {"kite a 200 0 ?", 2, 7}, {"kite a 1 2? 200", 1, 10},
            {"kite a 1 1;kite a 1 1;", 3, 16}, {"kite a 1 1;kite a", 3, 16}, {"kite a 1 1;kite b 1 1;kite b 200 1;", 3, 27},
            {"wind", 1, 4}, {"wind 0", 1, 6}, {"wind 0 1", 1, 8}, {"wind 0 1 1", 1, 10}, {"wind 0 - - 1 1;", 1, 9}, {"wind 0 -;", 1, 8},
            {"wind -0 1 1;", 1, 5}, {"wind 1 1 1;", 2, 5}, {"wind 300 1 1;", 2, 5}, {"wind 0 10 1;", 2, 7}, {"wind 0 -10 1;", 2, 8}, {"wind 0 - 10 1;", 2, 9},
            {"wind 0 1 -10;", 2, 10}, {"wind 0 1 1;wind 0 1 1;", 2, 16}, {"wind 0 1 1;wind 9 1 1;wind 9 1 1;", 2, 27},
            {"wind 0 1 1;wind 301 1 1;", 2, 16}, {"wind 0 1 1;wind 300 1 1;wind 300 1 1;", 2, 29},
            {"wind 0 1 1;wind 300 1 1;wind 301 1 1;", 2, 29},
            {"wind 0 1 1;wind 1 1 1;wind 2 1 1;wind 3 1 1;wind 4 1 1;", 4, 44}, {"wind 0 1 1;wind 1 1 1;wind 2 1 1;wind 3 1 1;wind", 4, 44},
            {"slack", 1, 5}, {"slack -1;", 1, 6}, {"slack 100;", 2, 6}, {"rise 10;", 2, 5}, {"climb 10;", 2, 6}, {"sink 0;", 2, 5}, {"sink 21;", 2, 5},
            {"reach 51;", 2, 6}, {"pick 51;", 2, 5}, {"slack 1 1;", 1, 8}, {"slack 1;slack 1;", 3, 8}, {"rise 1;rise 1;", 3, 7}, {"climb 1;climb", 3, 8},
            {"sink 1;sink 1;", 3, 7}, {"reach 1;reach 1;", 3, 8}, {"pick 1;slack 1;pick ;", 3, 15}, {"slack 1; ;", 1, 9}, {"slack 1;;", 1, 8},
            {"slack 1;\u00e9", 1, 8}, {"slack\t1;", 1, 5}, {"slack 1\r;", 1, 7}, {"slack 1;\u0000", 1, 8}, {ten + "kite a", 4, ten.length()}, {ten + " kite", 4, ten.length() + 1},
            {ten + "x", 1, ten.length()}, {ten.substring(0, ten.length() - 1) + " kite", 1, ten.length()}};
        for (Object[] row : rows) {
            KiteQuarrel q = new KiteQuarrel();
            due("parse <" + row[0] + ">", -1, () -> Checks.parse(q, (String) row[0]));
            due("error of <" + row[0] + ">", row[1] + " " + row[2], () -> q.errorCode() + " " + q.errorOffset());
            due("buffer behind <" + row[0] + ">", 0, () -> Checks.bufferLength(q));
        }
    }

    private static void fullBuffer() {
        KiteQuarrel q = new KiteQuarrel();
        StringBuilder text = new StringBuilder("kite a 1 1;");
        while (text.length() < 699) text.append(' ');
        due("a text of 700 bytes", "-1 1 699", () -> Checks.parse(q, text + "!") + " " + q.errorCode() + " " + q.errorOffset());
        due("more required behind 700 bytes", "-1 1 700", () -> Checks.parse(q, "slack 1" + text.substring(0, 693).replaceAll(".", " ")) + " " + q.errorCode() + " " + q.errorOffset());
        StringBuilder word = new StringBuilder();
        while (word.length() < 700) word.append('z');
        due("a word of 700 letters", "-1 1 0", () -> Checks.parse(q, word.toString()) + " " + q.errorCode() + " " + q.errorOffset());
        due("a number of 695 digits", "-1 1 5", () -> Checks.parse(q, "sink " + word.substring(5).replace('z', '9')) + " " + q.errorCode() + " " + q.errorOffset());
    }

    private static void errorOfLatestParse() {
        KiteQuarrel q = new KiteQuarrel();
        Checks.parse(q, "sink 0;");
        due("code stays", "2 5", () -> q.errorCode() + " " + q.errorOffset());
        q.find();
        q.set(0, 1);
        q.undo();
        due("code stays", "2 5", () -> q.errorCode() + " " + q.errorOffset());
        Checks.parse(q, "?");
        due("code of the latest", "1 0", () -> q.errorCode() + " " + q.errorOffset());
        Checks.parse(q, "");
        due("no error", "0 -1", () -> q.errorCode() + " " + q.errorOffset());
    }

    private static void countsAndSettings() {
        KiteQuarrel q = Checks.field("kite a 1 1;wind 0 1 1;wind 9 2 2;wind 10 2 2;slack 11;rise 1;climb 2;sink 13;reach 14;pick 15;");
        due("kites and winds", "1 3", () -> q.count(0) + " " + q.count(1));
        int[] settings = {11, 1, 2, 13, 14, 15};
        for (int what = 0; what < 6; what++) {
            int w = what;
            due("setting " + w, settings[w], () -> q.setting(w));
        }
        for (int what : new int[] {-1, 13, Integer.MIN_VALUE, Integer.MAX_VALUE}) due("count " + what, -1, () -> q.count(what));
        for (int what : new int[] {-1, 6, Integer.MIN_VALUE, Integer.MAX_VALUE}) due("setting " + what, -1, () -> q.setting(what));
    }

    private static void countsOfQuarrels() {
        // bob's line is cut in the second tick, bob's kite falls in the seventh and is picked up
        KiteQuarrel q = Checks.field("kite ann 50 50 sharp 2 tough 9 out 30;kite bob 45 60 sharp 3 tough 4 out 30;kite cy 0 0;wind 0 0 0;slack 99;");
        q.launch(0);
        q.launch(1);
        q.walk(0, 40, 50);
        q.walk(1, 45, 40);
        due("before the cut", "2 1 0 0 0 2 0 1 1 4", () -> counts(q));
        q.run(2);
        due("behind the cut", "1 1 1 0 0 3 1 0 0 5", () -> counts(q));
        q.set(5, 0);
        q.run(5);
        due("behind the fall", "1 1 0 1 0 4 1 0 0 7", () -> counts(q));
        q.set(5, 10);
        q.run(1);
        due("behind the picking up", "1 1 0 0 1 5 1 0 0 9", () -> counts(q));
        due("time", 8, () -> q.count(2));
    }

    private static String counts(KiteQuarrel q) {
        StringBuilder s = new StringBuilder();
        for (int what = 3; what <= 12; what++) s.append(q.count(what)).append(' ');
        return s.toString().trim();
    }

    private static void found() {
        KiteQuarrel q = Checks.field("kite a 1 1;kite ab 1 1;kite abcdef 1 1;");
        Object[][] rows = {{"a", 0}, {"ab", 1}, {"abcdef", 2}, {"abc", -1}, {"abcdefg", -1}, {"", -1}, {"a ", -1}, {" a", -1}, {"b", -1}, {"A", -1}, {"abcdeg", -1},
            {"a\n", -1}, {"a;", -1}};
        for (Object[] row : rows) {
            Checks.feed(q, (String) row[0]);
            due("find <" + row[0] + ">", row[1], q::find);
            due("buffer behind find", 0, () -> Checks.bufferLength(q));
        }
        q.launch(1);
        q.letGo(1);
        q.run(9);
        Checks.feed(q, "ab");
        due("find one that fell", 1, q::find);
        Checks.feed(q, "kite a 1 1; kite");
        q.parse();
        Checks.feed(q, "abcdef");
        due("find behind a faulty text", 2, q::find);
    }

    public static void main(String[] args) {
        newObject();
        feedAndTruncate();
        parsed();
        parseStartsAnew();
        fewerThanBefore();
        errors();
        fullBuffer();
        errorOfLatestParse();
        countsAndSettings();
        countsOfQuarrels();
        found();
        Checks.end("SetupTest");
    }
}
