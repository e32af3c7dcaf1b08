/** Promises 1 to 9: a new object, the input buffer, parse and its error, counts, settings, names. */
final class BufferPromises extends Sentences {
    private BufferPromises() {
    }

    static void hold() {
        newObject();
        feed();
        truncate();
        parse();
        errors();
        count();
        setting();
        find();
    }

    private static void newObject() {
        place("Promise 1");
        says("Creates a field as if the empty text was parsed,", () -> {
            KiteQuarrel empty = launched(1, "kite a 1 1;wind 0 1 1;sink 9;");
            Checks.parse(empty, "");
            is("all that shows", everything(new KiteQuarrel()), everything(empty));
            KiteQuarrel q = new KiteQuarrel();
            is("the wind and the settings", wind(q, 0) + ", " + settings(q), "0 3 0 3, 5 2 3 4 3 10");
            is("no kite", all(q.count(0), q.highest(), q.tautest(), q.leader(), q.spread(), q.meanHeight(), q.sum(1), q.cutsIn(100), q.inBox(0, 0, 199, 199)), "0 -1 -1 -1 -1 0.0 0 0 0");
            is("ticks pass without a kite", all(q.run(200), q.count(2), q.count(12)), "0 200 1");
        });
        says("with an empty input buffer.", () -> {
            is("no byte", new KiteQuarrel().truncate(1), false);
            is("its length", new KiteQuarrel().feed(0, 0, 0, 0, 0), 20);
        });
    }

    private static void feed() {
        place("Promise 2");
        says("Appends twenty bytes to the input buffer: the four bytes of each parameter, the most significant byte first.", () -> {
            KiteQuarrel q = new KiteQuarrel();
            is("kite abcdef 12 34 ou", q.feed(0x6b697465, 0x20616263, 0x64656620, 0x31322033, 0x34206f75), 20);
            is("t 56;kite b 78 9;   ", q.feed(0x74203536, 0x3b6b6974, 0x65206220, 0x37382039, 0x3b202020), 40);
            is("kites", q.parse(), 2);
            is("what is read", all(printed(q, 0), q.kite(0, 6), printed(q, 1)), "abcdef 12,34,0 down 56 b 78,9,0 down");
        });
        String[] places = {"- `a`: bytes 0 to 3", "- `b`: bytes 4 to 7", "- `c`: bytes 8 to 11", "- `d`: bytes 12 to 15", "- `e`: bytes 16 to 19"};
        for (int n = 0; n < 5; n++) {
            int parameter = n;
            says(places[n], () -> {
                for (int at = 0; at < 4; at++) is("byte " + (4 * parameter + at), placeOf(parameter, 24 - 8 * at), "error 1 " + (4 * parameter + at));
            });
        }
        says("Returns the new length of the buffer;", () -> {
            KiteQuarrel q = new KiteQuarrel();
            for (int n = 1; n <= 35; n++) is("feed " + n, q.feed(-1, LEAST, MOST, 0, n), 20 * n);
            q.truncate(7);
            is("behind a truncate", q.feed(0, 0, 0, 0, 0), 27);
            q.parse();
            is("behind a parse", q.feed(0, 0, 0, 0, 0), 20);
        });
        says("NONE, with no change, if it would exceed 700.", () -> {
            KiteQuarrel q = new KiteQuarrel();
            Checks.feed(q, "kite a 1 1;" + " ".repeat(669));
            is("680 and 20", q.feed(0x20202020, 0x20202020, 0x20202020, 0x20202020, 0x2020203b), 700);
            is("700 and 20", q.feed(0, 0, 0, 0, 0), -1);
            is("700 and 20 once more", all(q.feed(0, 0, 0, 0, 0), q.truncate(701), q.truncate(700)), "-1 false true");
            q.truncate(681);
            is("681 and 20", all(q.feed(0, 0, 0, 0, 0), q.truncate(682), q.truncate(681)), "-1 false true");
            is("what is kept", q.parse(), 1);
        });
    }

    /** The error of twenty bytes that are blanks but for a # at one place. */
    private static String placeOf(int parameter, int shift) {
        int[] five = {0x20202020, 0x20202020, 0x20202020, 0x20202020, 0x20202020};
        five[parameter] ^= (0x20 ^ 0x23) << shift;
        KiteQuarrel q = new KiteQuarrel();
        q.feed(five[0], five[1], five[2], five[3], five[4]);
        q.parse();
        return "error " + error(q);
    }

    private static void truncate() {
        place("Promise 3");
        says("Shortens the input buffer to its first bytes.", () -> {
            KiteQuarrel q = new KiteQuarrel();
            Checks.feed(q, "kite a 1 1;kite b 2 2;");
            q.truncate(11);
            is("the first bytes", all(Checks.bufferLength(q), q.parse(), printed(q, 0)), "11 1 a 1,1,0 down");
        });
        says("- `length`: the new length", () -> {
            KiteQuarrel q = new KiteQuarrel();
            Checks.feed(q, "kite a 1 1;");
            q.truncate(10);
            is("10", all(Checks.bufferLength(q), q.parse(), error(q)), "10 -1 1 10");
        });
        says("Returns true;", () -> {
            KiteQuarrel q = new KiteQuarrel();
            is("0 of 0", q.truncate(0), true);
            Checks.feed(q, " ".repeat(700));
            is("all of 700", all(q.truncate(700), Checks.bufferLength(q)), "true 700");
            is("one less", all(q.truncate(699), Checks.bufferLength(q)), "true 699");
            is("1, then 0", all(q.truncate(1), Checks.bufferLength(q), q.truncate(0), Checks.bufferLength(q)), "true 1 true 0");
        });
        says("false, with no change, if length is negative or greater than the length of the buffer.", () -> {
            KiteQuarrel q = new KiteQuarrel();
            is("of none", all(q.truncate(-1), q.truncate(1), q.truncate(700), q.truncate(LEAST), q.truncate(MOST)), "false false false false false");
            Checks.feed(q, "kite a 1 1;");
            is("of 11", all(q.truncate(-1), q.truncate(12), q.truncate(LEAST), q.truncate(MOST), Checks.bufferLength(q)), "false false false false 11");
            is("what is kept", q.parse(), 1);
            Checks.feed(q, " ".repeat(700));
            is("of 700", all(q.truncate(701), Checks.bufferLength(q)), "false 700");
        });
    }

    /** All that parse sets anew is there: events, points, changes, a saved state, a time, winds, settings, an error, an output. */
    private static KiteQuarrel used() {
        KiteQuarrel q = crossed("sharp 2 tough 9", "sharp 3 tough 4", "reach 4;");
        q.run(7);
        q.saveState();
        q.set(0, 1);
        Checks.parse(q, "sink 0;");
        q.printKite(1);
        return q;
    }

    private static void parse() {
        place("Promise 4");
        says("Parses the input buffer and empties it, whether it succeeds or not.", () -> {
            KiteQuarrel q = new KiteQuarrel();
            is("it succeeds", all(Checks.parse(q, "kite a 1 1;"), Checks.bufferLength(q)), "1 0");
            is("it does not", all(Checks.parse(q, "kite a 1 1"), Checks.bufferLength(q)), "-1 0");
            is("the empty buffer", all(q.parse(), Checks.bufferLength(q), q.count(0)), "0 0 0");
        });
        says("On success everything but the output is as at first, with the setup of the text;", () -> {
            KiteQuarrel q = used();
            Checks.parse(q, "kite z 5 6;rise 7;");
            is("the output is kept", Checks.output(q), "bob 45,60,0 picked");
            KiteQuarrel fresh = field("kite z 5 6;rise 7;");
            q.printKite(0);
            fresh.printKite(0);
            is("all else", everything(q), everything(fresh));
            KiteQuarrel ten = tenCrossed(""), two = new KiteQuarrel();
            is("nothing of ten kites that flew and crossed", looks(ten), looks(two));
            KiteQuarrel names = used();
            Checks.parse(names, "kite bob 5 6;");
            is("the names", all(found(names, "ann"), found(names, "bob")), "-1 0");
        });
        says("the time is 0, there are no events and points, nothing can be undone, and no state is saved.", () -> {
            KiteQuarrel q = used();
            is("before", all(q.count(2), q.count(8), q.sum(11), q.count(12), q.count(9)), "7 5 3 6 1");
            Checks.parse(q, "kite y 5 6;kite z 5 6;");
            is("behind", all(q.count(2), q.count(8), q.sum(11), q.count(12), q.count(9), q.leader()), "0 0 0 0 0 -1");
            is("undo and restoreState", all(Checks.answerOf(q::undo), Checks.answerOf(q::restoreState)), Checks.STATE + " " + Checks.STATE);
            KiteQuarrel late = late(5000, "kite a 1 1;");
            Checks.parse(late, "");
            is("from 5000", all(late.count(2), late.run(200)), "0 0");
        });
        says("Returns the number of kites;", () -> {
            is("0", new KiteQuarrel().parse(), 0);
            is("0, of a text", parsed("sink 1;"), "0 kites");
            is("1", parsed("kite a 1 1;"), "1 kites");
            is("10", parsed(tenKites()), "10 kites");
        });
        says("NONE if the text has an error, in which case everything but the buffer and the error is kept.", () -> {
            for (String text : new String[] {"?", "kite z 5 6;kite z", "kite z 5 6 sharp 9 tough 9 out 9;sink 9;wind 0 9 9;rise 99;", tenKites() + "kite"}) {
                KiteQuarrel q = used();
                is("parse", Checks.parse(q, text), -1);
                Checks.parse(q, "sink 0;");
                is("all is kept behind " + text, everything(q), everything(used()));
                KiteQuarrel names = behind(text);
                is("the names, too", all(found(names, "ann"), found(names, "bob"), found(names, "z")), "0 1 -1");
            }
        });
    }

    /** What is to be seen of two kites that fly, behind a parse. */
    private static String looks(KiteQuarrel q) {
        Checks.parse(q, "kite y 100 100 out 300;kite z 82 190 out 300;");
        q.launch(0);
        q.launch(1);
        q.walk(0, 106, 14);
        return all(q.count(3), q.count(10), q.rubs(0), q.wearNow(0), q.threat(0), q.highest(), q.tautest(), q.spread(), q.meanHeight(), q.nearest(0), q.rank(1), q.inBox(0, 0, 199, 199),
            q.sum(1), q.leader(), q.cutsIn(50), q.picker(10, 10, -1), pairs(q), events(q), Checks.answerOf(() -> q.kite(2, 0)));
    }

    private static KiteQuarrel behind(String text) {
        KiteQuarrel q = used();
        Checks.parse(q, text);
        return q;
    }

    private static void errors() {
        String[][] rows = {{"?", "1 0"}, {" sink 0;", "2 6"}, {"sink 1;sink 1;", "3 7"}, {tenKites() + "kite", "4 150"}, {"sink", "1 4"}};
        place("Promise 5");
        says("Returns the error code of the latest call of parse.", () -> latestError(rows));
        says("Returns 1 to 4;", () -> {
            for (String[] row : rows) is("code of " + row[0], behind(row[0]).errorCode() + "", row[1].substring(0, 1));
        });
        says("0 if that text had no error or there was no such call.", () -> is("no call, no error", all(new KiteQuarrel().errorCode(), field("").errorCode(), field("sink 1;").errorCode()), "0 0 0"));
        place("Promise 6");
        says("Returns the error offset of the latest call of parse.", () -> latestError(rows));
        says("Returns the offset;", () -> {
            is("the first byte", behind("?").errorOffset(), 0);
            is("behind the last of 700", behind("sink 1" + " ".repeat(694)).errorOffset(), 700);
        });
        says("NONE if that text had no error or there was no such call.", () -> is("no call, no error", all(new KiteQuarrel().errorOffset(), field("").errorOffset(), field("sink 1;").errorOffset()), "-1 -1 -1"));
    }

    private static void latestError(String[][] rows) {
        KiteQuarrel q = new KiteQuarrel();
        for (String[] row : rows) {
            Checks.parse(q, row[0]);
            is("error of " + row[0], error(q), row[1]);
            Checks.feed(q, "x");
            q.find();
            q.set(0, 1);
            q.undo();
            q.saveState();
            q.restoreState();
            is("it stays", error(q), row[1]);
        }
        q.parse();
        is("a text without error", error(q), "0 -1");
    }

    private static void count() {
        place("Promise 7");
        says("Returns a number of the whole.", () -> is("of five kites", all(five().count(0), five().count(1)), "5 2"));
        says("- `what`: 0 kites, 1 winds, 2 the time, 3 to 7 kites in the states FLIES to PICKED, 8 events that are kept, 9 cuts so far, 10 pairs of lines that cross now, "
            + "11 pairs that rub now, 12 changes that can be undone", () -> {
                is("at first", counts(new KiteQuarrel()), "0 1 0 0 0 0 0 0 0 0 0 0 0");
                is("one in each state", counts(five()), "5 2 1 1 1 1 1 1 7 0 0 0 2");
                KiteQuarrel q = bobIsCutInTwo();
                is("one pair", counts(q), "2 1 0 2 0 0 0 0 2 0 1 1 4");
                q.set(4, 2);
                is("that does not rub", counts(q), "2 1 0 2 0 0 0 0 2 0 1 0 5");
                q.set(4, 3);
                q.run(2);
                is("one cut", counts(q), "2 1 2 1 0 1 0 0 3 1 0 0 7");
                KiteQuarrel ten = tenCrossed("");
                is("ten kites, all pairs", counts(ten), "10 1 0 10 0 0 0 0 10 0 45 45 10");
                ten.pull(0, 180);
                ten.set(4, 0);
                is("all but those of one line, which is not slack", all(ten.count(10), ten.count(11)), "45 36");
                is("the last two of ten", all(lastTwo().count(3), lastTwo().count(4), lastTwo().count(10), lastTwo().count(11)), "2 8 1 1");
                is("four winds, twelve events", all(field("wind 0 1 1;wind 1 1 1;wind 2 1 1;wind 3 1 1;").count(1), launchedTwelve().count(8)), "4 12");
                is("the last moment", late(5000, "").count(2), 5000);
            });
        says("Returns the number;", () -> {
            KiteQuarrel q = ten(4, "");
            is("states", all(q.count(3), q.count(4)), "4 6");
            KiteQuarrel cuts = tenCrossed("pick 0;");
            cuts.run(2);
            is("cuts before the first", all(cuts.count(9), cuts.cutsIn(100)), "0 10");
            cuts.run(1);
            is("ten cuts", all(cuts.count(9), cuts.count(5), cuts.cutsIn(100)), "10 10 0");
            cuts.run(100);
            is("cuts so far", all(cuts.count(9), cuts.count(6)), "10 10");
        });
        says("NONE for another what.", () -> is("others", all(five().count(-1), five().count(13), five().count(LEAST), five().count(MOST)), "-1 -1 -1 -1"));
    }

    private static String counts(KiteQuarrel q) {
        StringBuilder s = new StringBuilder();
        for (int what = 0; what <= 12; what++) s.append(what > 0 ? " " : "").append(q.count(what));
        return s.toString();
    }

    private static KiteQuarrel launchedTwelve() {
        KiteQuarrel q = ten(10, "wind 0 0 0;");
        for (int n = 0; n < 3; n++) {
            q.pull(n, 50);
            q.run(5);
        }
        return q;
    }

    private static void setting() {
        place("Promise 8");
        says("Returns a setting.", () -> is("at first", settings(new KiteQuarrel()), "5 2 3 4 3 10"));
        says("- `what`: 0 SLACK, 1 RISE, 2 CLIMB, 3 SINK, 4 REACH, 5 PICK", () -> is("all", settings(field("slack 11;rise 1;climb 2;sink 13;reach 14;pick 15;")), "11 1 2 13 14 15"));
        says("Returns the setting;", () -> {
            KiteQuarrel q = field("slack 0;rise 0;climb 0;sink 1;reach 0;pick 0;");
            is("the least", settings(q), "0 0 0 1 0 0");
            q.set(5, 50);
            is("behind set", settings(q), "0 0 0 1 0 50");
        });
        says("NONE for another what.", () -> is("others", all(five().setting(-1), five().setting(6), five().setting(LEAST), five().setting(MOST)), "-1 -1 -1 -1"));
    }

    private static void find() {
        place("Promise 9");
        says("Finds a kite, in any state, by its name, which is the whole content of the input buffer (blanks count);", () -> {
            KiteQuarrel q = five();
            is("in each state", all(found(q, "a"), found(q, "b"), found(q, "c"), found(q, "d"), found(q, "e")), "0 1 2 3 4");
            is("blanks", all(found(q, " a"), found(q, "a "), found(q, "a\n"), found(q, "\na"), found(q, "a b")), "-1 -1 -1 -1 -1");
        });
        says("the buffer is empty afterwards.", () -> {
            KiteQuarrel q = five();
            found(q, "a");
            is("found", Checks.bufferLength(q), 0);
            found(q, "zzzzzz");
            is("not found", Checks.bufferLength(q), 0);
            found(q, " ".repeat(700));
            is("not found of 700 bytes", Checks.bufferLength(q), 0);
        });
        says("Returns number of the kite;", () -> {
            KiteQuarrel q = field("kite abcdef 1 1;kite abcde 1 1;kite a 1 1;kite bbcdef 1 1;");
            is("names that begin or end as others", all(found(q, "abcdef"), found(q, "abcde"), found(q, "a"), found(q, "bbcdef")), "0 1 2 3");
            is("the tenth", found(ten(10, ""), "j"), 9);
        });
        says("NONE if there is none with this name.", () -> {
            KiteQuarrel q = field("kite abcdef 1 1;kite b 2 2;");
            is("no such name", all(found(q, "abcdeg"), found(q, "abcde"), found(q, "abcdefg"), found(q, "B"), found(q, "c"), found(q, "b;"), found(q, "bb")), "-1 -1 -1 -1 -1 -1 -1");
            is("an empty name", q.find(), -1);
            is("of a new object", all(new KiteQuarrel().find(), found(new KiteQuarrel(), "a")), "-1 -1");
            is("a name of 700 bytes", found(q, "b".repeat(700)), -1);
        });
    }
}
