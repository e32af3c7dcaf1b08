/** Promises 53 to 58: output, saved state. */
final class OutputPromises extends Sentences {
    private OutputPromises() {
    }

    static void hold() {
        printKite();
        printPairs();
        printEvents();
        outputByte();
        saveState();
        restoreState();
    }

    private static void printKite() {
        place("Promise 53");
        says("Writes a kite to the output, in place of the text before: its name, a space, x, a comma, y, a comma, its height, a space, and one of the words flies, down, drifts, fell and picked.", () -> {
            KiteQuarrel q = five();
            is("each state", all(printed(q, 0), printed(q, 1), printed(q, 2), printed(q, 3), printed(q, 4)),
                "a 10,10,20 flies b 50,50,0 down c 90,90,16 drifts d 150,150,0 fell e 50,52,0 picked");
            KiteQuarrel names = field("kite abcdef 0 199;kite g 199 9;kite h 10 100;");
            is("numbers of one to three digits", all(printed(names, 0), printed(names, 1), printed(names, 2)), "abcdef 0,199,0 down g 199,9,0 down h 10,100,0 down");
            KiteQuarrel high = high(50, 50, "");
            is("a height of three digits", printed(high, 0), "a 50,50,290 flies");
            is("a kite's place, not the flyer's", printed(crossed("", "", ""), 0), "ann 50,50,20 flies");
        });
        says("Returns the number of bytes.", () -> {
            KiteQuarrel q = field("kite abcdef 100 199;kite g 1 9;");
            is("of a long one, then of a short one", all(q.printKite(0), Checks.output(q).length(), q.printKite(1), Checks.output(q)), "21 21 12 g 1,9,0 down");
        });
    }

    private static void printPairs() {
        place("Promise 54");
        says("Writes all pairs of lines that cross now to the output, in place of the text before, by the smaller and then by the greater kite number, with a space between two: "
            + "the name of the first kite, an x, or an asterisk if they rub, and the name of the second one;", () -> {
                KiteQuarrel q = crossed("", "", "");
                is("rubs at REACH", pairs(q), "ann*bob");
                q.set(4, 2);
                is("beyond REACH", pairs(q), "annxbob");
                // e's line is at 0 over c's; c goes over all others
                KiteQuarrel five = launched(5, "kite a 20 50 out 60;kite bb 30 50 out 60;kite c 60 45 out 60;kite dddddd 40 50 out 60;kite e 50 50 out 25;wind 0 0 0;slack 99;reach 2;");
                five.walk(0, 20, 40);
                five.walk(1, 30, 40);
                five.walk(2, 10, 45);
                five.walk(3, 40, 40);
                five.walk(4, 50, 40);
                is("by the smaller, then by the greater number", pairs(five), "a*c bbxc cxdddddd cxe");
                // 629 bytes are more than the calls that an object is good for
                StringBuilder ten = new StringBuilder();
                for (int from = 0; from < 700; from += 350) {
                    KiteQuarrel part = tenCrossed("");
                    is("the longest text that there can be", part.printPairs(), 629);
                    ten.append(Checks.output(part, from, from + 350));
                }
                is("all pairs in their order", ten, allPairs());
                is("the last two of ten", pairs(lastTwo()), "i*j");
                q.printKite(0);
                q.printPairs();
                is("in place of the text before", Checks.output(q), "annxbob");
            });
        says("a hyphen if there are none.", () -> {
            is("no kite", pairs(new KiteQuarrel()), "-");
            is("none crosses", pairs(five()), "-");
            KiteQuarrel q = crossed("", "", "");
            q.letGo(0);
            is("one that drifts", pairs(q), "-");
        });
        says("Returns the number of bytes.", () -> is("bytes", all(new KiteQuarrel().printPairs(), crossed("", "", "").printPairs(), tenCrossed("").printPairs()), "1 7 629"));
    }

    private static String allPairs() {
        StringBuilder pairs = new StringBuilder();
        for (char first = 'a'; first <= 'j'; first++) {
            for (char second = first; ++second <= 'j';) pairs.append(pairs.length() > 0 ? " " : "").append("kite").append(first).append("z*kite").append(second).append('z');
        }
        return pairs.toString();
    }

    private static void printEvents() {
        place("Promise 55");
        says("Writes the events that are kept to the output, in place of the text before, with a space between two: the time, one of the letters d, c, f, p and l for the kind, "
            + "the number of the kite, and, if there is another kite, a slash and its number;", () -> {
                KiteQuarrel q = bobIsCutInTwo();
                q.run(7);
                q.set(0, 0);
                q.set(3, 20);
                q.run(1);
                is("each kind", events(q), "0l0 0l1 1c1/0 6f1 6p1/0 7d0");
                q.printKite(0);
                q.printEvents();
                is("in place of the text before", Checks.output(q), "0l0 0l1 1c1/0 6f1 6p1/0 7d0");
                for (int time : new int[] {9, 10, 99, 100, 999, 1000, 5000}) {
                    KiteQuarrel late = late(time, "kite a 1 1;");
                    late.launch(0);
                    is("at " + time, events(late), time + "l0");
                }
                KiteQuarrel cuts = tenCrossed("");
                cuts.reel(9, 9);
                cuts.run(2);
                is("another kite 9", events(cuts).endsWith("1c6/9 1c7/9 1c8/9"), true);
            });
        says("a hyphen if there are none.", () -> {
            is("no event", events(new KiteQuarrel()), "-");
            KiteQuarrel q = launched(1, "kite a 1 1;");
            q.undo();
            is("an event undone", events(q), "-");
        });
        says("Returns the number of bytes.", () -> is("bytes", all(new KiteQuarrel().printEvents(), launched(1, "kite a 1 1;").printEvents(), ten(10, "").printEvents()), "1 3 39"));
    }

    private static void outputByte() {
        place("Promise 56");
        says("Returns a byte of the output.", () -> {
            KiteQuarrel q = field("kite ab 1 2;");
            q.printKite(0);
            is("all", Checks.output(q), "ab 1,2,0 down");
        });
        says("- `index`: index of the byte, from 0", () -> {
            KiteQuarrel q = field("kite ab 1 2;");
            q.printKite(0);
            is("first, second, last", all(q.outputByte(0), q.outputByte(1), q.outputByte(12)), "97 98 110");
        });
        says("Returns the byte;", () -> {
            KiteQuarrel q = tenCrossed("");
            q.printPairs();
            is("the first and the last of the longest text", all(q.outputByte(0), q.outputByte(628), q.outputByte(629)), "107 122 -1");
            is("a hyphen", all(new KiteQuarrel().printEvents(), hyphen().outputByte(0), hyphen().outputByte(1)), "1 45 -1");
        });
        says("NONE if there is no such byte.", () -> {
            KiteQuarrel none = new KiteQuarrel();
            is("no output yet", all(none.outputByte(0), none.outputByte(-1), none.outputByte(1), none.outputByte(LEAST), none.outputByte(MOST)), "-1 -1 -1 -1 -1");
            KiteQuarrel q = crossed("", "", "");
            q.printKite(0);
            q.printPairs();
            is("beyond a text that is shorter than the one before", all(q.outputByte(-1), q.outputByte(6), q.outputByte(7), q.outputByte(8), q.outputByte(LEAST), q.outputByte(MOST)),
                "-1 98 -1 -1 -1 -1");
        });
    }

    private static KiteQuarrel hyphen() {
        KiteQuarrel q = new KiteQuarrel();
        q.printPairs();
        return q;
    }

    private static void saveState() {
        place("Promise 57");
        says("Saves everything but the input buffer, the error, the output and the changes that can be undone, in place of an earlier saved state.", () -> {
            KiteQuarrel q = bobIsCutInTwo();
            q.run(7);
            q.set(0, 98);
            q.setWind(0, 0, 1);
            String saved = shown(q);
            q.saveState();
            q.setWind(0, 5, 5);
            q.set(3, 9);
            q.restring(1, 9, 9);
            q.launch(1);
            q.run(20);
            Checks.parse(q, "sink 0;");
            q.printKite(0);
            Checks.feed(q, "kite x 1 2;");
            q.restoreState();
            is("everything", shown(q), saved);
            is("but the error, the output and the buffer", all(error(q), Checks.output(q).substring(0, 4), q.parse(), printed(q, 0)), "2 5 ann  1 x 1,2,0 down");
            KiteQuarrel changes = field("kite a 1 1;");
            changes.reel(0, 1);
            changes.saveState();
            is("the changes stay, and it is none", changes.count(12), 1);
            changes.reel(0, 2);
            changes.saveState();
            changes.reel(0, 3);
            changes.restoreState();
            is("in place of the earlier one", changes.kite(0, 7), 2);
            KiteQuarrel fresh = new KiteQuarrel();
            fresh.saveState();
            fresh.run(9);
            is("of a new object", all(fresh.restoreState(), fresh.count(2)), "0 0");
        });
        says("Returns the time.", () -> is("times", all(new KiteQuarrel().saveState(), late(1, "").saveState(), late(5000, "").saveState()), "0 1 5000"));
    }

    /** All of the field alone. */
    private static String shown(KiteQuarrel q) {
        return all(q.count(2), q.count(8), q.count(9), settings(q), wind(q, 0), numbers(q, 0), numbers(q, 1), event(q, 0), event(q, q.count(8) - 1));
    }

    private static void restoreState() {
        place("Promise 58");
        says("Restores the saved state, which stays saved.", () -> {
            KiteQuarrel q = bobIsCutInTwo();
            q.saveState();
            String saved = shown(q);
            for (int n = 0; n < 3; n++) {
                q.run(20);
                q.set(2, n);
                is("restored " + n, all(q.restoreState(), shown(q)), "0 " + saved);
            }
            KiteQuarrel events = ten(10, "wind 0 0 0;");
            events.pull(0, 50);
            events.run(5);
            events.saveState();
            String kept = events(events);
            for (int kite = 1; kite < 10; kite++) events.pull(kite, 50);
            events.run(5);
            events.restoreState();
            is("the events", events(events), kept);
            KiteQuarrel faulty = field("kite a 1 1;");
            faulty.saveState();
            Checks.parse(faulty, "?");
            is("a faulty text leaves it saved", faulty.restoreState(), 0);
        });
        says("Nothing can be undone then.", () -> {
            KiteQuarrel q = field("kite a 1 1;");
            q.reel(0, 1);
            q.saveState();
            q.reel(0, 2);
            q.restoreState();
            is("nothing", all(q.count(12), Checks.answerOf(q::undo), q.kite(0, 7)), "0 " + Checks.STATE + " 1");
            q.reel(0, 5);
            is("but what comes behind", all(q.count(12), q.undo(), q.kite(0, 7)), "1 0 1");
        });
        says("Returns the time.", () -> {
            KiteQuarrel q = late(5000, "kite a 1 1;");
            q.saveState();
            is("the last moment", q.restoreState(), 5000);
            is("none passes", Checks.answerOf(() -> q.run(1)), Checks.STATE);
            KiteQuarrel back = new KiteQuarrel();
            back.saveState();
            until(back, 5000);
            is("back to the first", all(back.restoreState(), back.run(200)), "0 0");
        });
    }
}
