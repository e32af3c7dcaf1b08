/** Section 2: a tick, step by step. */
final class TickSection extends Sentences {
    private TickSection() {
    }

    static void hold() {
        place("Section 2");
        time();
        kitesThatFly();
        lengthOut();
        moved();
        climbs();
        sinks();
        pulledIn();
        down();
        rubs();
        cuts();
        whoCuts();
        drifts();
        pickedUp();
        says("The time becomes 1 greater.", () -> {
            KiteQuarrel q = field("kite a 1 1;");
            q.run(1);
            is("one tick", q.count(2), 1);
            q.run(200);
            is("200 more", q.count(2), 201);
        });
    }

    /** What is to be seen of kite 0 behind some ticks with a reel: state, x, y, height, length out. */
    private static void behind(String what, String text, int reel, int ticks, String want) {
        KiteQuarrel q = launched(1, text);
        q.reel(0, reel);
        q.run(ticks);
        is(what + ": " + text + " reel " + reel, place(q, 0), want);
    }

    private static void time() {
        says("The time counts ticks from 0, up to 5000.", () -> {
            is("at first", new KiteQuarrel().count(2), 0);
            KiteQuarrel q = late(4999, "kite a 1 1;");
            is("the last tick", all(q.run(1), q.count(2)), "0 5000");
            refused("one more", Checks.STATE, () -> late(5000, "kite a 1 1;"), r -> r.run(1));
            KiteQuarrel end = late(5000, "kite a 1 1;");
            is("all other changes at 5000", all(end.restring(0, 1, 1), end.launch(0), end.reel(0, 2), end.pull(0, 3), end.walk(0, 4, 5), end.letGo(0), end.setWind(0, 1, 1), end.set(0, 1), end.undo()),
                "0 10 0 10 7 10 3 5 7");
        });
        says("In a tick the following is done:", () -> {
            KiteQuarrel q = bobIsCutInTwo();
            q.run(2);
            is("all parts of both ticks", numbers(q, 0) + ", " + numbers(q, 1), "0 50 50 20 40 50 30 0 2 9 6 1 -1 -1, 2 45 60 20 45 40 30 0 3 4 4 0 -1 0");
        });
    }

    private static void kitesThatFly() {
        says("For each kite that flies, by number (all five steps of one ahead of the next one):", () -> {
            KiteQuarrel q = field("kite a 50 50 out 3;kite b 60 60 out 3;kite c 70 70 out 3;slack 0;wind 0 0 0;");
            for (int kite = 2; kite >= 0; kite--) q.launch(kite);
            for (int kite = 2; kite >= 0; kite--) q.pull(kite, 9);
            q.run(1);
            is("by number, not by launch", events(q), "0l2 0l1 0l0 0d0 0d1 0d2");
            KiteQuarrel five = five();
            five.setWind(0, 5, 5);
            for (int kite = 0; kite < 5; kite++) five.reel(kite, 3);
            five.run(1);
            // lifted by 3 times 5 to 35, and pulled in
            is("one that flies", place(five, 0), "0 15 15 33 33");
            is("one that is down", place(five, 1), "1 50 50 0 7");
            is("one that drifts is moved in c, and keeps its length out", place(five, 2), "2 95 95 12 20");
            is("one that fell", place(five, 3), "3 150 150 0 3");
            is("one that was picked up", place(five, 4), "4 50 52 0 4");
        });
    }

    private static void lengthOut() {
        says("The length out changes by the reel, but is at least 1 and at most 400.", () -> {
            String still = "wind 0 0 0;slack 99;climb 0;sink 1;";
            behind("to 1", "kite a 50 50 out 2;" + still, -1, 1, "0 50 50 1 1");
            behind("at 1", "kite a 50 50 out 1;" + still, -1, 1, "0 50 50 1 1");
            behind("to 1 by 9", "kite a 50 50 out 10;" + still, -9, 1, "0 50 50 1 1");
            behind("below 1 by 9", "kite a 50 50 out 9;" + still, -9, 1, "0 50 50 1 1");
            behind("above 1 by 9", "kite a 50 50 out 11;" + still, -9, 1, "0 50 50 2 2");
            behind("to 400", "kite a 50 50 out 399;" + still, 1, 1, "0 50 50 19 400");
            behind("at 400", "kite a 50 50 out 400;" + still, 1, 1, "0 50 50 19 400");
            behind("to 400 by 9", "kite a 50 50 out 391;" + still, 9, 1, "0 50 50 19 400");
            behind("above 400 by 9", "kite a 50 50 out 392;" + still, 9, 1, "0 50 50 19 400");
            behind("below 400 by 9", "kite a 50 50 out 390;" + still, 9, 1, "0 50 50 19 399");
        });
    }

    private static void moved() {
        says("The kite is moved by the two speeds of the wind at its height (a place that would be less than 0 or greater than 199 becomes 0 or 199).", () -> {
            String[][] rows = {{"50 50", "9 -9", "59 41"}, {"50 50", "-9 9", "41 59"}, {"1 50", "-1 0", "0 50"}, {"1 50", "-2 0", "0 50"}, {"2 50", "-1 0", "1 50"}, {"0 50", "-1 0", "0 50"},
                {"0 50", "-9 0", "0 50"}, {"198 50", "1 0", "199 50"}, {"198 50", "2 0", "199 50"}, {"197 50", "1 0", "198 50"}, {"199 50", "1 0", "199 50"}, {"199 50", "9 0", "199 50"},
                {"50 1", "0 -1", "50 0"}, {"50 1", "0 -2", "50 0"}, {"50 2", "0 -1", "50 1"}, {"50 0", "0 -1", "50 0"}, {"50 0", "0 -9", "50 0"}, {"50 198", "0 1", "50 199"},
                {"50 198", "0 2", "50 199"}, {"50 197", "0 1", "50 198"}, {"50 199", "0 1", "50 199"}, {"50 199", "0 9", "50 199"}, {"0 199", "-9 9", "0 199"}, {"199 0", "9 -9", "199 0"}};
            for (String[] row : rows) {
                behind("moved", "kite a " + row[0] + " out 90;wind 0 " + row[1] + ";slack 99;rise 0;", 0, 1, "0 " + row[2] + " 20 90");
            }
            String winds = "wind 0 1 0;wind 19 2 0;wind 20 0 3;wind 21 0 4;slack 99;rise 0;";
            behind("the wind at its height", "kite a 50 50 out 20;" + winds, 5, 1, "0 50 53 20 25");
            behind("the wind below", "kite a 50 50 out 19;" + winds, 5, 1, "0 52 50 19 24");
            behind("the lowest wind", "kite a 50 50 out 18;" + winds, 5, 1, "0 51 50 18 23");
            behind("whatever is out", "kite a 50 50 out 40;" + winds, 5, 1, "0 50 53 20 45");
        });
    }

    private static void climbs() {
        says("If its slack is then at most SLACK (perhaps below 0),", () -> {
            behind("SLACK", "kite a 50 50 out 25;wind 0 0 0;slack 5;climb 3;sink 1;", 0, 1, "0 50 50 20 25");
            behind("SLACK and 1", "kite a 50 50 out 26;wind 0 0 0;slack 5;climb 3;sink 1;", 0, 1, "0 50 50 19 26");
            behind("SLACK 0", "kite a 50 50 out 20;wind 0 0 0;slack 0;sink 1;", 0, 1, "0 50 50 20 20");
            behind("SLACK 0 and 1", "kite a 50 50 out 21;wind 0 0 0;slack 0;sink 1;", 0, 1, "0 50 50 19 21");
            behind("SLACK 99", "kite a 50 50 out 119;wind 0 0 0;slack 99;sink 1;", 0, 1, "0 50 50 20 119");
            behind("SLACK 99 and 1", "kite a 50 50 out 120;wind 0 0 0;slack 99;sink 1;", 0, 1, "0 50 50 19 120");
            // behind the reel and the move: spans of 20, and of 9 aside and 20 high
            behind("behind the reel", "kite a 50 50 out 25;wind 0 0 0;slack 5;sink 1;", 1, 1, "0 50 50 19 26");
            behind("behind the reel, shorter", "kite a 50 50 out 26;wind 0 0 0;slack 5;climb 3;sink 1;", -1, 1, "0 50 50 23 25");
            behind("behind the move", "kite a 50 50 out 30;wind 0 9 0;slack 9;rise 0;sink 1;", 0, 1, "0 59 50 20 30");
            behind("behind the move, and 1", "kite a 50 50 out 31;wind 0 9 0;slack 9;rise 0;sink 1;", 0, 1, "0 59 50 19 31");
            // below 0: the kite of 30 and 20 would be pulled in to a slack of 0
            KiteQuarrel q = launched(1, "kite a 80 50 out 20;wind 0 0 0;slack 0;climb 9;");
            q.walk(0, 50, 50);
            q.pull(0, 36);
            q.reel(0, -1);
            is("below 0 before", q.slack(0), 0);
            q.run(1);
            // 29 and 30 at first, the slack -6; pulled in to 25 and 25
            is("it climbs below 0, too", place(q, 0), "0 75 50 25 35");
        });
        says("its height becomes greater by RISE times the force of the wind at its height (as before the tick);", () -> {
            behind("x", "kite a 50 50 out 60;wind 0 4 -1;slack 99;rise 3;", 0, 1, "0 54 49 32 60");
            behind("y below 0", "kite a 50 50 out 60;wind 0 1 -4;slack 99;rise 3;", 0, 1, "0 51 46 32 60");
            behind("the most", "kite a 50 50 out 119;wind 0 0 9;slack 99;rise 9;", 0, 1, "0 50 59 101 119");
            behind("RISE 0", "kite a 50 50 out 60;wind 0 9 9;slack 99;rise 0;", 0, 1, "0 59 59 20 60");
            behind("no wind", "kite a 50 50 out 60;wind 0 0 0;slack 99;rise 9;", 0, 1, "0 50 50 20 60");
            behind("of the height before it climbs", "kite a 50 50 out 90;wind 0 2 0;wind 22 9 9;slack 99;rise 1;", 0, 1, "0 52 50 22 90");
            behind("in the next tick of the wind above", "kite a 50 50 out 90;wind 0 2 0;wind 22 9 9;slack 99;rise 1;", 0, 2, "0 61 59 31 90");
        });
        says("and by CLIMB more if its reel is below 0;", () -> {
            String text = "kite a 50 50 out 60;wind 0 1 0;slack 99;rise 1;climb 7;";
            behind("-1", text, -1, 1, "0 51 50 28 59");
            behind("-9", text, -9, 1, "0 51 50 28 51");
            behind("0", text, 0, 1, "0 51 50 21 60");
            behind("1", text, 1, 1, "0 51 50 21 61");
            behind("CLIMB 0", "kite a 50 50 out 60;wind 0 0 0;slack 99;climb 0;", -1, 1, "0 50 50 20 59");
            behind("CLIMB 9", "kite a 50 50 out 60;wind 0 0 0;slack 99;climb 9;", -1, 1, "0 50 50 29 59");
        });
        says("but it is at most 300.", TickSection::atTheTop);
    }

    private static void atTheTop() {
        int[][] rows = {{9, 299}, {10, 300}, {11, 300}, {90, 300}};
        for (int[] row : rows) {
            KiteQuarrel q = high(50, 50, "");
            q.reel(0, 0);
            q.pull(0, 380);
            // by RISE times the force alone: 9 by 1, 5 by 2, 11 is 9 by 1 and 2 by CLIMB, 81 and 9 by CLIMB
            q.set(1, row[0] == 10 ? 5 : 9);
            q.set(2, row[0] == 90 ? 9 : 2);
            q.setWind(0, 0, row[0] == 10 ? 2 : row[0] == 90 ? 9 : 1);
            if (row[0] == 11 || row[0] == 90) q.reel(0, -1);
            q.run(1);
            is("290 and " + row[0], q.kite(0, 3), row[1]);
        }
    }

    private static void sinks() {
        says("Otherwise its height becomes less by SINK, but it is at least 0.", () -> {
            String text = "kite a 50 50 out 20;wind 0 0 0;slack 0;";
            int[][] rows = {{20, 19, 0}, {20, 20, 0}, {4, 4, 0}, {4, 3, 0}, {4, 5, 1}, {1, 1, 0}, {1, 2, 1}, {20, 1, 0}};
            for (int[] row : rows) {
                KiteQuarrel q = field(text + "sink " + row[0] + ";");
                q.pull(0, row[1]);
                q.launch(0);
                q.pull(0, 90);
                q.run(1);
                is("SINK " + row[0] + " from " + row[1], q.kite(0, 3), row[2]);
            }
            behind("a reel below 0 does not lift it then", "kite a 50 50 out 60;wind 0 9 9;slack 9;rise 9;climb 9;sink 3;", -1, 1, "0 59 59 17 59");
        });
    }

    private static void pulledIn() {
        says("It is pulled in: as long as its slack, which is told anew each time, is below 0,", () -> {
            pulled("the slack 0", 10, 10, 10, 17, "10 10 10");
            pulled("the slack -1", 10, 10, 10, 16, "10 10 9");
            pulled("from 1 above a square", 0, 21, 20, 29, "0 21 20");
            pulled("the slack -1 of a square", 0, 21, 20, 28, "0 20 20");
            pulled("far", 140, -40, 20, 1, "1 -1 1");
            pulled("at once", 0, 0, 20, 1, "0 0 1");
            pulled("twice", 0, 0, 20, 18, "0 0 18");
        });
        says("the greatest of its height and of the absolute differences of x and of y to its flyer becomes 1 less (of several that are the greatest the height, then that of x).", () -> {
            pulled("all three", 10, 10, 10, 16, "10 10 9");
            pulled("all three twice", 10, 10, 10, 15, "9 9 9");
            pulled("x and y", 12, 12, 10, 18, "11 11 10");
            pulled("x and y once", 13, 13, 5, 18, "12 13 5");
            pulled("height and y", 5, 13, 13, 18, "5 13 12");
            pulled("height and x", 13, 5, 13, 18, "13 5 12");
            pulled("below 0", -10, -12, 12, 17, "-10 -11 10");
            pulled("x below 0", -12, 3, 5, 12, "-11 3 5");
            pulled("y below 0", 3, -12, 5, 12, "3 -11 5");
            pulled("x and y below 0", -13, -13, 5, 18, "-12 -13 5");
            pulled("x below 0 and y above", -13, 13, 5, 18, "-12 13 5");
        });
    }

    /** The differences and the height of a kite behind a tick without wind that makes its line shorter than its span. */
    private static void pulled(String what, int dx, int dy, int height, int out, String want) {
        int kiteX = 50 + Math.max(0, dx), kiteY = 50 + Math.max(0, dy);
        KiteQuarrel q = launched(1, "kite a " + kiteX + " " + kiteY + " out " + height + ";wind 0 0 0;slack 99;");
        q.walk(0, kiteX - dx, kiteY - dy);
        q.pull(0, out);
        q.run(1);
        is("pulled in, " + what, all(q.kite(0, 1) - kiteX + dx, q.kite(0, 2) - kiteY + dy, q.kite(0, 3)), want);
    }

    private static void down() {
        says("If its height is 0 then, it is down.", () -> {
            behind("0", "kite a 50 50 out 4;wind 0 0 0;slack 0;sink 4;", 9, 1, "1 50 50 0 13");
            behind("1", "kite a 50 50 out 5;wind 0 0 0;slack 0;sink 4;", 9, 1, "0 50 50 1 14");
            behind("it stays down, and its reel is still", "kite a 50 50 out 4;wind 0 3 3;slack 0;sink 4;", 9, 3, "1 53 53 0 13");
            KiteQuarrel q = launched(1, "kite a 50 50 out 4;wind 0 0 0;slack 0;sink 4;");
            q.pull(0, 9);
            q.run(2);
            is("told once", events(q), "0l0 0d0");
        });
    }

    private static void rubs() {
        says("For all pairs of kites that fly (as they are behind a): if their lines rub (section 3),", () -> {
            // ann's kite goes down in the tick ahead of the rubbing, bob's stays
            KiteQuarrel down = crossed("", "", "reach 50;sink 20;");
            down.set(0, 0);
            down.pull(1, 28);
            is("they rub before", down.rubs(0), 2);
            down.run(1);
            is("one that is down behind a", all(states(down), down.kite(0, 10), down.kite(1, 10)), "10 0 0");
            // ann's kite comes over bob's line in the first tick
            KiteQuarrel over = launched(2, "kite ann 45 50 sharp 2 out 11;kite bob 45 60 sharp 3 out 30;wind 0 1 0;wind 12 0 0;slack 99;rise 0;reach 50;");
            over.walk(0, 40, 50);
            over.pull(0, 30);
            over.walk(1, 45, 40);
            is("they do not cross before", over.crosses(0, 1), false);
            over.run(1);
            is("they rub behind a", all(over.crosses(0, 1), over.kite(0, 10), over.kite(1, 10)), "true 3 2");
            KiteQuarrel drifts = crossed("", "", "");
            drifts.letGo(1);
            drifts.run(1);
            is("one that drifts", all(drifts.kite(0, 10), drifts.kite(1, 10)), "0 0");
            KiteQuarrel apart = crossed("", "", "reach 2;");
            apart.run(1);
            is("they cross, but do not rub", all(apart.count(10), apart.kite(0, 10), apart.kite(1, 10)), "1 0 0");
        });
        says("the wear of each one's line becomes greater by the other one's sharpness times 1 more than the absolute value of the other one's reel.", () -> {
            int[][] rows = {{0, 0, 3, 2}, {1, 0, 3, 4}, {-1, 0, 3, 4}, {0, -2, 9, 2}, {9, 9, 30, 20}, {-9, -9, 30, 20}};
            for (int[] row : rows) {
                KiteQuarrel q = crossed("sharp 2 tough 99", "sharp 3 tough 99", "reach 50;climb 0;");
                q.reel(0, row[0]);
                q.reel(1, row[1]);
                q.run(1);
                is("wear with the reels " + row[0] + ", " + row[1], all(q.kite(0, 10), q.kite(1, 10)), all(row[2], row[3]));
            }
            KiteQuarrel none = crossed("sharp 0", "sharp 9", "");
            none.run(2);
            is("sharpness 0 and 9, in two ticks", all(none.kite(0, 10), none.kite(1, 10)), "18 0");
        });
    }

    /** The line of c goes over those of a, b and d, and all rub; sharpness and toughness as told. */
    private static KiteQuarrel cOverThree(String a, String b, String c, String d) {
        KiteQuarrel q = launched(4, "kite a 20 50 " + a + " out 60;kite b 30 50 " + b + " out 60;kite c 60 45 " + c + " out 60;kite d 40 50 " + d + " out 60;wind 0 0 0;slack 99;reach 50;");
        q.walk(0, 20, 40);
        q.walk(1, 30, 40);
        q.walk(2, 10, 45);
        q.walk(3, 40, 40);
        return q;
    }

    private static void cuts() {
        says("Behind all pairs: each line whose wear is its toughness or more is cut, by number:", () -> {
            KiteQuarrel below = crossed("sharp 2", "sharp 3 tough 3", "");
            below.run(1);
            is("the wear 2 of 3", all(below.kite(1, 10), states(below)), "2 00");
            KiteQuarrel just = crossed("sharp 3", "sharp 3 tough 3", "");
            is("the wear 3 of 3", all(just.run(1), just.kite(1, 10), states(just)), "1 3 02");
            KiteQuarrel above = crossed("sharp 4", "sharp 3 tough 3", "");
            is("the wear 4 of 3", all(above.run(1), above.kite(1, 10), states(above)), "1 4 02");
            // a is worn out by c, the first pair; the pairs of c with b and d wear all the same
            KiteQuarrel all = cOverThree("tough 1", "tough 1", "tough 1", "tough 9");
            is("behind all pairs", all(all.run(1), all.kite(2, 10), all.kite(1, 10), all.kite(3, 10)), "3 3 1 1");
            is("by number", events(all), "0l0 0l1 0l2 0l3 0c0/2 0c1/2 0c2/0");
            KiteQuarrel ten = tenCrossed("");
            ten.reel(0, 9);
            is("ten lines", all(ten.run(1), ten.kite(0, 10), ten.kite(9, 10)), "0 9 18");
            is("in the next tick all but the first", all(ten.run(1), states(ten)), "9 0222222222");
        });
        says("its kite drifts from the next tick on (two lines may cut one another in one tick).", () -> {
            KiteQuarrel q = crossed("sharp 3 tough 3", "sharp 3 tough 3", "");
            is("both", all(q.run(1), states(q), q.kite(0, 13), q.kite(1, 13), q.kite(0, 11), q.kite(1, 11)), "2 22 1 0 1 1");
            is("neither sinks in this tick", all(q.kite(0, 3), q.kite(1, 3)), "20 20");
            q.run(1);
            is("both sink in the next one", all(q.kite(0, 3), q.kite(1, 3), q.kite(0, 10), q.kite(1, 10)), "16 16 3 3");
        });
        says("A cut is told as an event, with the place of the crossing of these two lines.", () -> {
            KiteQuarrel q = cOverThree("sharp 1 tough 9", "sharp 2 tough 1", "tough 1", "sharp 0 tough 1");
            q.run(1);
            is("of the kites that are cut", all(event(q, 4), event(q, 5), event(q, 6)), "0 1 1 2 30 45 0 1 2 1 30 45 0 1 3 2 40 45");
        });
    }

    private static void whoCuts() {
        says("It is cut by the kite with which it rubs in this tick and that brought the most wear in this tick, the smallest number of several;", () -> {
            is("the last of them", cutterOfC("sharp 1", "sharp 2", "sharp 3", 6), "3");
            is("the first of them", cutterOfC("sharp 3", "sharp 2", "sharp 1", 6), "0");
            is("the middle one", cutterOfC("sharp 1", "sharp 3", "sharp 2", 6), "1");
            is("several", cutterOfC("sharp 1", "sharp 3", "sharp 3", 7), "1");
            is("all", cutterOfC("sharp 2", "sharp 2", "sharp 2", 6), "0");
            is("none but one brings wear", cutterOfC("sharp 0", "sharp 0", "sharp 1", 1), "3");
            // a brought 9 in the tick before, when b and d brought 2 and 1; in the tick of the cut a flies no more
            KiteQuarrel q = cOverThree("sharp 9", "sharp 2", "sharp 0 tough 13", "sharp 1");
            is("no cut in the first tick", all(q.run(1), q.kite(2, 10)), "0 12");
            q.letGo(0);
            is("in this tick alone", all(q.run(1), q.kite(2, 13)), "1 1");
            // the greatest in this tick, not in both
            KiteQuarrel both = cOverThree("sharp 0", "sharp 2", "sharp 0 tough 13", "sharp 1");
            both.reel(1, 4);
            both.set(2, 0);
            is("b brings 10, d 1", all(both.run(1), both.kite(2, 10)), "0 11");
            both.reel(1, 0);
            both.reel(3, 2);
            is("b brings 2, d 3", all(both.run(1), both.kite(2, 13)), "1 3");
        });
        says("this kite gets a point.", () -> {
            KiteQuarrel q = cOverThree("sharp 1 tough 1", "tough 1", "sharp 9 tough 9", "tough 1");
            q.run(1);
            is("c cut three", all(q.kite(0, 11), q.kite(1, 11), q.kite(2, 11), q.kite(3, 11)), "0 0 3 0");
        });
    }

    private static String cutterOfC(String a, String b, String d, int tough) {
        KiteQuarrel q = cOverThree(a, b, "sharp 0 tough " + tough, d);
        q.run(1);
        return all(q.kite(2, 13));
    }

    private static void drifts() {
        says("For each kite that drifted ahead of this tick, by number: it is moved as in a2,", () -> {
            KiteQuarrel q = launched(2, "kite a 50 50 out 20;kite b 60 60 out 19;wind 0 1 0;wind 20 -9 9;sink 1;pick 0;");
            q.letGo(1);
            q.letGo(0);
            q.run(1);
            is("by the wind at the height before", all(place(q, 0), place(q, 1)), "2 41 59 19 20 2 61 60 18 19");
            KiteQuarrel out = launched(2, "kite a 50 50 out 20;kite b 60 60 out 19;wind 0 1 0;wind 20 -9 9;sink 1;pick 0;");
            out.pull(0, 5);
            out.pull(1, 50);
            out.letGo(0);
            out.letGo(1);
            out.run(1);
            is("whatever is out", all(place(out, 0), place(out, 1)), "2 41 59 19 5 2 61 60 18 50");
            KiteQuarrel edge = launched(4, "kite a 0 1 out 20;kite b 199 198 out 20;kite c 1 0 out 20;kite d 198 199 out 20;wind 0 -1 -2;");
            for (int kite = 0; kite < 4; kite++) edge.letGo(kite);
            edge.run(1);
            is("at the lower edges", all(edge.kite(0, 1), edge.kite(0, 2), edge.kite(2, 1), edge.kite(2, 2)), "0 0 0 0");
            KiteQuarrel upper = launched(2, "kite b 199 198 out 20;kite d 198 199 out 20;wind 0 1 2;");
            upper.letGo(0);
            upper.letGo(1);
            upper.run(1);
            is("at the upper edges", all(upper.kite(0, 1), upper.kite(0, 2), upper.kite(1, 1), upper.kite(1, 2)), "199 199 199 199");
        });
        says("its height becomes less by SINK (at least 0);", () -> {
            int[][] rows = {{4, 3, 0}, {4, 4, 0}, {4, 5, 1}, {20, 1, 0}, {20, 20, 0}, {1, 1, 0}, {1, 20, 19}};
            for (int[] row : rows) {
                KiteQuarrel q = launched(1, "kite a 50 50 out " + row[1] + ";sink " + row[0] + ";");
                q.letGo(0);
                q.run(1);
                is("SINK " + row[0] + " from " + row[1], q.kite(0, 3), row[2]);
            }
        });
        says("if its height is 0 then, it fell.", () -> {
            KiteQuarrel q = launched(3, "kite a 50 50 out 4;kite b 100 100 out 5;kite c 150 150 out 3;wind 0 0 0;");
            for (int kite = 2; kite >= 0; kite--) q.letGo(kite);
            q.run(1);
            is("of 4, of 5 and of 3", states(q), "323");
            is("by number", events(q), "0l0 0l1 0l2 0f0 0f2");
            q.run(1);
            is("once", events(q), "0l0 0l1 0l2 0f0 0f2 1f1");
        });
    }

    /** Kite a falls in the first tick where it was launched, (50,50); PICK is 10. */
    private static KiteQuarrel falls(String others) {
        KiteQuarrel q = launched(1, "kite a 50 50 out 4;" + others + "wind 0 0 0;slack 0;");
        q.letGo(0);
        return q;
    }

    private static String pickedBy(KiteQuarrel q) {
        q.run(1);
        return all(q.kite(0, 0), q.kite(0, 12));
    }

    private static void pickedUp() {
        says("Then each kite that fell, in this tick or before, and was not picked up yet is picked up, by number,", () -> {
            is("in this tick", pickedBy(falls("kite b 50 50;")), "4 1");
            KiteQuarrel before = falls("kite b 99 99;");
            before.run(3);
            before.walk(1, 50, 50);
            is("before", pickedBy(before), "4 1");
            before.run(5);
            is("not once more", all(before.kite(1, 11), events(before)), "2 0l0 0f0 3p0/1");
            // a falls at (59,47), away from its flyer
            for (String[] row : new String[][] {{"69 57", "4 1"}, {"50 50", "4 1"}, {"48 50", "3 -1"}, {"50 58", "3 -1"}, {"69 37", "4 1"}}) {
                KiteQuarrel away = launched(1, "kite a 50 50 out 4;kite b " + row[0] + ";wind 0 9 -3;pick 10;");
                away.letGo(0);
                is("where it fell, by the flyer at " + row[0], pickedBy(away), row[1]);
            }
            KiteQuarrel two = launched(2, "kite a 50 50 out 4;kite b 50 50 out 4;kite c 50 50;wind 0 0 0;");
            two.letGo(1);
            two.letGo(0);
            two.run(1);
            is("by number, behind all that fell", events(two), "0l0 0l1 0f0 0f1 0p0/2 0p1/2");
        });
        says("if the flyer of some other kite that flies or is down (by then) is within PICK of it:", () -> {
            is("no other kite", pickedBy(falls("")), "3 -1");
            KiteQuarrel flies = falls("kite b 51 51 out 5;");
            flies.launch(1);
            is("that flies", all(pickedBy(flies), flies.kite(1, 0)), "4 1 0");
            is("that is down", pickedBy(falls("kite b 51 51;")), "4 1");
            KiteQuarrel drifts = falls("kite b 51 51 out 9;");
            drifts.launch(1);
            drifts.letGo(1);
            is("that drifts", all(pickedBy(drifts), drifts.kite(1, 0)), "3 -1 2");
            KiteQuarrel fell = falls("kite b 51 51 out 4;");
            fell.launch(1);
            fell.letGo(1);
            is("that fell", all(pickedBy(fell), fell.kite(1, 0)), "3 -1 3");
            KiteQuarrel picked = launched(2, "kite a 50 50 out 8;kite b 51 51 out 4;kite c 61 61;wind 0 0 0;");
            picked.letGo(0);
            picked.letGo(1);
            picked.run(1);
            picked.walk(2, 99, 99);
            is("that was picked up", all(picked.kite(1, 0), pickedBy(picked)), "4 3 -1");
            KiteQuarrel goesDown = falls("kite b 51 51 out 4;");
            goesDown.launch(1);
            goesDown.pull(1, 50);
            is("that went down in this tick", all(pickedBy(goesDown), goesDown.kite(1, 0)), "4 1 1");
            KiteQuarrel isCut = bobIsCutInTwo();
            isCut.run(2);
            // bob's kite is at the height 4 behind four more ticks; in the fifth it falls, and ann's kite, whose flyer would pick it up, was let go
            isCut.run(4);
            isCut.letGo(0);
            is("that drifts by then", all(isCut.run(1), states(isCut)), "0 23");
        });
        says("if the flyer of some other kite that flies or is down (by then)", TickSection::cutByThen);
        says("the difference of x and the difference of y both at most PICK;", () -> {
            String[][] rows = {{"60 50", "4 1"}, {"61 50", "3 -1"}, {"40 50", "4 1"}, {"39 50", "3 -1"}, {"50 60", "4 1"}, {"50 61", "3 -1"}, {"50 40", "4 1"}, {"50 39", "3 -1"},
                {"60 60", "4 1"}, {"40 40", "4 1"}, {"60 61", "3 -1"}, {"61 60", "3 -1"}};
            for (String[] row : rows) is("from " + row[0], pickedBy(falls("kite b " + row[0] + ";")), row[1]);
            is("PICK 0", all(pickedBy(falls("pick 0;kite b 50 50;")), pickedBy(falls("pick 0;kite b 51 50;")), pickedBy(falls("pick 0;kite b 50 49;"))), "4 1 3 -1 3 -1");
            is("PICK 50", all(pickedBy(falls("pick 50;kite b 0 100;")), pickedBy(falls("pick 50;kite b 101 50;"))), "4 1 3 -1");
        });
        says("by the one with the least sum of both differences, of several the one with the smallest number, who gets 2 points.", () -> {
            is("the second", pickedBy(falls("kite b 53 54;kite c 53 53;kite d 55 55;")), "4 2");
            is("the last", pickedBy(falls("kite b 53 54;kite c 53 53;kite d 52 51;")), "4 3");
            is("several", pickedBy(falls("kite b 53 54;kite c 50 43;kite d 43 50;")), "4 1");
            KiteQuarrel q = falls("kite b 60 50;kite c 49 41;");
            is("points before", all(q.kite(1, 11), q.kite(2, 11)), "0 0");
            is("equal sums", all(pickedBy(q), q.kite(0, 11), q.kite(1, 11), q.kite(2, 11)), "4 1 0 2 0");
        });
    }

    /** In one tick ann's line is cut by bob and kite c falls beside ann's flyer, who is asked no more; beside bob's flyer it is picked up. */
    private static void cutByThen() {
        for (int[] row : new int[][] {{40, 50, 3, -1}, {45, 40, 4, 1}}) {
            KiteQuarrel q = launched(3, "kite ann 50 50 sharp 0 tough 3 out 30;kite bob 45 60 sharp 3 out 30;kite c " + row[0] + " " + row[1] + " out 4;wind 0 0 0;slack 99;pick 2;");
            q.walk(0, 40, 50);
            q.walk(1, 45, 40);
            q.letGo(2);
            is("cuts", q.run(1), 1);
            is("c at " + row[0] + "," + row[1], all(states(q), q.kite(2, 12)), "20" + row[2] + " " + row[3]);
        }
    }
}
