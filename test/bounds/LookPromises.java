/** Promises 10 to 33: what there is. (What their calls refuse stands in Refusals.) */
final class LookPromises extends Sentences {
    private LookPromises() {
    }

    static void hold() {
        kite();
        winds();
        spanAndSlack();
        crosses();
        rubs();
        event();
        highestAndTautest();
        leaderAndRank();
        picker();
        gap();
        nearest();
        upwind();
        threat();
        sum();
        inBox();
        heights();
        left();
    }

    private static void kite() {
        place("Promise 10");
        says("- `what`: 0 its state, 1 its x, 2 its y, 3 its height, 4 x of its flyer, 5 y of its flyer, 6 the length out, 7 its reel, 8 the sharpness of its line, 9 the toughness, 10 the wear, "
            + "11 the points of its flyer, 12 by whose flyer it was picked up (NONE), 13 by which kite its line was cut (NONE)", () -> {
                KiteQuarrel q = bobIsCutInTwo();
                q.reel(1, -2);
                q.set(2, 0);
                q.set(4, 4);
                is("at first", numbers(q, 0), "0 50 50 20 40 50 30 0 2 9 0 0 -1 -1");
                q.run(1);
                is("worn", numbers(q, 0) + ", " + numbers(q, 1), "2 50 50 20 40 50 30 0 2 9 9 0 -1 1, 0 45 60 20 45 40 28 -2 3 4 2 1 -1 -1");
                KiteQuarrel picked = bobIsCutInTwo();
                picked.run(2);
                is("cut by the kite 0, not picked up", numbers(picked, 1), "2 45 60 20 45 40 30 0 3 4 4 0 -1 0");
                picked.run(5);
                is("picked up by the flyer 0", numbers(picked, 1) + ", " + picked.kite(0, 11), "4 45 60 0 45 40 30 0 3 4 4 0 0 0, 3");
                is("all five states", all(numbers(five(), 3), numbers(five(), 4)), "3 150 150 0 150 150 3 0 1 20 0 0 -1 -1 4 50 52 0 50 52 4 0 1 20 0 0 1 -1");
            });
        says("Returns a number of a kite.", () -> is("x of the first and of the tenth", all(ten(0, "").kite(0, 1), ten(0, "").kite(9, 1)), "100 100"));
        says("Returns the number.", () -> is("at first", numbers(field("kite a 1 2;"), 0), "1 1 2 0 1 2 10 0 1 20 0 0 -1 -1"));
    }

    private static void winds() {
        place("Promise 11");
        says("Returns a number of a wind.", () -> is("the default one", wind(new KiteQuarrel(), 0), "0 3 0 3"));
        says("- `wind`: number of a wind", () -> is("the fourth", wind(field("wind 0 1 1;wind 1 1 1;wind 2 1 1;wind 3 -4 5;"), 3), "3 -4 5 5"));
        says("- `what`: 0 its lowest height, 1 its speed for x, 2 for y, 3 its force", () -> is("all", wind(field("wind 0 1 1;wind 300 -9 8;"), 1), "300 -9 8 9"));
        says("Returns the number.", () -> is("speeds below 0", all(field("wind 0 -9 -9;").wind(0, 1), field("wind 0 -9 -9;").wind(0, 2)), "-9 -9"));
        place("Promise 12");
        says("Returns the wind at a height.", () -> is("just below and at it", all(field("wind 0 1 1;wind 150 1 1;").windAt(149), field("wind 0 1 1;wind 150 1 1;").windAt(150)), "0 1"));
        says("Returns number of the wind.", () -> {
            KiteQuarrel q = field("wind 0 1 1;wind 1 1 1;wind 299 1 1;wind 300 1 1;");
            is("at the bounds", all(q.windAt(0), q.windAt(1), q.windAt(2), q.windAt(298), q.windAt(299), q.windAt(300)), "0 1 1 1 2 3");
        });
    }

    private static void spanAndSlack() {
        place("Promise 13");
        says("Returns the span of a kite.", () -> is("of 10, 0, 20", crossed("", "", "").span(0), 22));
        says("Returns the span;", () -> is("a kite above its flyer", launched(1, "kite a 0 0 out 1;").span(0), 1));
        says("NONE unless it flies.", () -> is("each state", all(five().span(0), five().span(1), five().span(2), five().span(3), five().span(4)), "20 -1 -1 -1 -1"));
        place("Promise 14");
        says("Returns the slack of a kite.", () -> is("30 less 22, and less 28", all(crossed("", "", "").slack(0), crossed("", "", "").slack(1)), "8 2"));
        says("Returns the slack, which may be below 0.", () -> {
            KiteQuarrel q = crossed("", "", "");
            q.pull(0, 22);
            is("0", q.slack(0), 0);
            q.pull(0, 21);
            is("-1", q.slack(0), -1);
        });
    }

    private static void crosses() {
        place("Promise 15");
        says("Tells whether the lines of two kites cross now.", () -> {
            KiteQuarrel q = crossed("", "", "");
            is("either way", all(q.crosses(0, 1), q.crosses(1, 0)), "true true");
            q.walk(0, 45, 50);
            is("an end on the other line", all(q.crosses(0, 1), q.crosses(1, 0)), "false false");
        });
        says("Returns true if both fly and their lines cross.", () -> {
            KiteQuarrel q = tenCrossed("pick 0;");
            is("not with itself", all(q.crosses(0, 0), q.crosses(9, 9)), "false false");
            is("0 and 9", all(q.crosses(0, 9), q.crosses(9, 0)), "true true");
            q.letGo(9);
            is("one that drifts", all(q.crosses(0, 9), q.crosses(9, 0), q.crosses(0, 8)), "false false true");
            q.letGo(8);
            is("both drift", q.crosses(8, 9), false);
            q.run(100);
            is("they fell", all(q.kite(8, 0), q.crosses(0, 8), q.crosses(8, 9)), "3 false false");
            KiteQuarrel down = field("kite a 50 50 out 9;kite b 45 60 out 9;");
            is("both are down", down.crosses(0, 1), false);
        });
        place("Promise 16");
        says("Returns a number of the crossing of two lines.", () -> is("all", crossing(crossed("", "", ""), 0, 1), "45 50 6 9 3"));
        says("- `what`: 0 its x, 1 its y (section 3, by the smaller kite number), 2 the height of the line of kite there, 3 that of the line of other, 4 the absolute difference of both heights", () -> {
            is("the other way", crossing(crossed("", "", ""), 1, 0), "45 50 9 6 3");
            KiteQuarrel q = crossed("", "", "");
            q.pull(0, 22);
            q.pull(1, 34);
            is("the first one above", all(crossing(q, 0, 1), crossing(q, 1, 0)), "45 50 10 7 3 45 50 7 10 3");
            q.walk(0, 40, 47);
            is("the place by the smaller number", all(q.crossing(0, 1, 0), q.crossing(0, 1, 1), q.crossing(1, 0, 0), q.crossing(1, 0, 1)), "45 48 45 48");
        });
        says("Returns the number;", () -> {
            KiteQuarrel q = crossed("", "", "");
            q.pull(0, 400);
            q.pull(1, 400);
            is("both on the ground", crossing(q, 0, 1), "45 50 0 0 0");
        });
        says("NONE if the lines do not cross now.", () -> {
            KiteQuarrel q = crossed("", "", "");
            is("a line and itself", crossing(q, 1, 1), "-1 -1 -1 -1 -1");
            q.walk(0, 45, 50);
            is("an end on the other line", crossing(q, 0, 1), "-1 -1 -1 -1 -1");
            q.undo();
            q.letGo(1);
            is("one that drifts", crossing(q, 0, 1), "-1 -1 -1 -1 -1");
            is("a fault of what comes first", Checks.answerOf(() -> q.crossing(0, 1, 5)), Checks.ARGUMENT);
        });
    }

    private static void rubs() {
        place("Promise 17");
        says("Returns the kites whose lines rub that of a kite now.", () -> {
            KiteQuarrel q = crossed("", "", "");
            is("at REACH", all(q.rubs(0), q.rubs(1)), "2 1");
            q.set(4, 2);
            is("beyond", all(q.rubs(0), q.rubs(1)), "0 0");
        });
        says("Returns the set of kites.", () -> is("the last two of ten", all(lastTwo().rubs(8), lastTwo().rubs(9), lastTwo().rubs(0)), "512 256 0"));
        says("Returns the set of kites.", () -> is("all of ten", all(tenCrossed("").rubs(0), tenCrossed("").rubs(9), five().rubs(0), five().rubs(4)), "1022 511 0 0"));
        place("Promise 18");
        says("Returns the wear that would come to a line if a tick had only its part b now.", () -> {
            KiteQuarrel q = crossed("sharp 2 tough 9", "sharp 3 tough 4", "");
            is("now", all(q.wearNow(0), q.wearNow(1)), "3 2");
            q.reel(0, 9);
            q.reel(1, -9);
            is("with reels", all(q.wearNow(0), q.wearNow(1)), "30 20");
            q.reel(0, 0);
            q.reel(1, 0);
            q.run(1);
            is("not the wear that is there", all(q.wearNow(0), q.kite(0, 10)), "3 3");
            // part b alone: ann's kite would go down in part a
            q.set(0, 0);
            q.set(3, 20);
            is("without part a", all(q.wearNow(0), q.kiteIn(0, 10, 1)), "3 3");
            q.set(4, 2);
            is("beyond REACH", all(q.wearNow(0), q.wearNow(1)), "0 0");
        });
        says("Returns the wear.", () -> {
            KiteQuarrel q = tenCrossed("");
            q.reel(9, 9);
            is("of nine lines", all(q.wearNow(0), q.wearNow(9)), "18 9");
            is("of none", all(five().wearNow(0), five().wearNow(1), five().wearNow(2)), "0 0 0");
            is("of the last two of ten", all(lastTwo().wearNow(8), lastTwo().wearNow(9), lastTwo().wearNow(0)), "3 2 0");
            is("as in a tick", all(lastTwo().kiteIn(8, 10, 1), lastTwo().kiteIn(9, 10, 1)), "3 2");
            is("of one without sharpness", crossed("sharp 0", "", "").wearNow(1), 0);
        });
    }

    private static void event() {
        place("Promise 19");
        says("Returns the part of an event.", () -> {
            KiteQuarrel q = bobIsCutInTwo();
            q.run(7);
            is("the latest", event(q, 4), "6 3 1 0 45 60");
        });
        says("- `what`: 0 its time, 1 its kind, 2 the kite, 3 the other kite (NONE), 4 x and 5 y of its place: of the kite as this happens, but of WAS_CUT that of the crossing", () -> {
            KiteQuarrel q = launched(1, "kite a 50 60 out 20;wind 0 5 0;slack 0;rise 0;sink 10;");
            q.walk(0, 51, 61);
            q.pull(0, 400);
            q.run(1);
            q.setWind(0, 0, 7);
            q.run(1);
            q.launch(0);
            q.letGo(0);
            q.run(2);
            is("launched where it was, down where it came", event(q, 0) + ", " + event(q, 1), "0 4 0 -1 50 60, 1 0 0 -1 55 67");
            is("launched at its flyer, fallen where it came", event(q, 2) + ", " + event(q, 3), "2 4 0 -1 51 61, 3 2 0 -1 51 75");
            q.walk(0, 0, 0);
            is("they stay", all(q.event(2, 4), q.event(2, 5)), "51 61");
            // the crossing at 45 and 48 and a half, of kites at other places
            KiteQuarrel cut = crossed("sharp 9", "tough 1", "reach 50;");
            cut.walk(0, 40, 47);
            cut.run(1);
            is("the crossing", event(cut, 2), "0 1 1 0 45 48");
        });
        says("Returns the part.", () -> is("a launch at the edge", event(launched(1, "kite a 199 0;"), 0), "0 4 0 -1 199 0"));
    }

    private static void highestAndTautest() {
        place("Promise 20");
        says("Finds the highest kite that flies.", () -> {
            KiteQuarrel q = launched(4, "kite a 9 9 out 5;kite b 9 9 out 6;kite c 9 9 out 20;kite d 9 9 out 19;kite e 9 9;");
            is("the third", q.highest(), 2);
            q.pull(0, 400);
            q.pull(2, 1);
            is("whatever is out", q.highest(), 2);
            q.letGo(2);
            is("not one that drifts", q.highest(), 3);
            is("the last two of ten", lastTwo().highest(), 8);
        });
        says("Returns number of the kite, the smallest one on a tie;", () -> {
            is("ten", ten(10, "").highest(), 0);
            is("20 and more out", launched(3, "kite a 9 9 out 19;kite b 9 9 out 400;kite c 9 9 out 20;").highest(), 1);
            is("the last", launched(3, "kite a 9 9 out 1;kite b 9 9 out 2;kite c 9 9 out 3;").highest(), 2);
            is("the first", launched(3, "kite a 9 9 out 3;kite b 9 9 out 2;kite c 9 9 out 1;").highest(), 0);
        });
        says("NONE if none flies.", () -> is("no kite, none that flies", all(new KiteQuarrel().highest(), ten(0, "").highest(), drifting().highest()), "-1 -1 -1"));
        place("Promise 21");
        says("Finds the kite that flies with the least slack.", () -> {
            KiteQuarrel q = launched(4, "kite a 9 9 out 23;kite b 9 9 out 22;kite c 9 9 out 21;kite d 9 9 out 24;kite e 9 9;");
            is("the third", q.tautest(), 2);
            q.letGo(2);
            is("not one that drifts", q.tautest(), 1);
            q.walk(3, 99, 99);
            is("below 0", q.tautest(), 3);
            is("the last two of ten", lastTwo().tautest(), 8);
        });
        says("Returns number of the kite, the smallest one on a tie;", () -> {
            is("ten", ten(10, "").tautest(), 0);
            is("the second and the third", launched(3, "kite a 9 9 out 23;kite b 9 9 out 22;kite c 9 9 out 22;").tautest(), 1);
            is("the most slack alone", launched(1, "kite a 9 9 out 400;").tautest(), 0);
        });
        says("NONE if none flies.", () -> is("no kite, none that flies", all(new KiteQuarrel().tautest(), ten(0, "").tautest(), drifting().tautest()), "-1 -1 -1"));
    }

    /** One kite that drifts, and one that is down. */
    private static KiteQuarrel drifting() {
        KiteQuarrel q = launched(1, "kite a 9 9 out 20;kite b 9 9;");
        q.letGo(0);
        return q;
    }

    /** The kites have the points 0, 2, 4, 2 and so on: each picks up those that fall beside it. */
    private static KiteQuarrel points() {
        KiteQuarrel q = launched(4, "kite a 50 50 out 1;kite b 100 50 out 1;kite c 50 100 out 1;kite d 50 101 out 1;kite e 50 53;kite f 100 53;kite g 50 103;pick 5;wind 0 0 0;");
        for (int kite = 0; kite < 4; kite++) q.letGo(kite);
        q.run(1);
        return q;
    }

    private static void leaderAndRank() {
        place("Promise 22");
        says("Finds the flyer with the most points.", () -> {
            KiteQuarrel q = points();
            is("points", all(q.kite(3, 11), q.kite(4, 11), q.kite(5, 11), q.kite(6, 11)), "0 2 2 4");
            is("the last", q.leader(), 6);
            is("of a cut alone", behindTheCut().leader(), 0);
        });
        says("Returns number of the kite, the smallest one on a tie;", () -> {
            KiteQuarrel q = launched(2, "kite a 50 50 out 1;kite b 100 50 out 1;kite e 50 53;kite f 100 53;pick 5;wind 0 0 0;");
            q.letGo(0);
            q.letGo(1);
            q.run(1);
            is("2 and 2", all(q.kite(2, 11), q.kite(3, 11), q.leader()), "2 2 2");
        });
        says("NONE if nobody has a point.", () -> is("no kite, no point", all(new KiteQuarrel().leader(), ten(10, "").leader(), five().leader()), "-1 -1 1"));
        place("Promise 29");
        says("Returns the rank of a flyer by points.", () -> {
            KiteQuarrel q = points();
            is("all", all(q.rank(0), q.rank(1), q.rank(2), q.rank(3), q.rank(4), q.rank(5), q.rank(6)), "3 4 5 6 1 2 0");
        });
        says("Returns how many others have more points, or as many and a smaller number.", () -> {
            KiteQuarrel q = ten(0, "");
            is("nobody has a point", all(q.rank(0), q.rank(1), q.rank(9)), "0 1 9");
            is("one alone", field("kite a 1 1;").rank(0), 0);
            is("of five", all(five().rank(0), five().rank(1), five().rank(2), five().rank(4)), "1 0 2 4");
        });
    }

    private static KiteQuarrel behindTheCut() {
        KiteQuarrel q = bobIsCutInTwo();
        q.run(2);
        return q;
    }

    private static void picker() {
        place("Promise 23");
        says("Finds the kite whose flyer would pick up a kite at a place.", () -> {
            KiteQuarrel q = field("kite a 50 50;kite b 70 70;");
            is("at most PICK", all(q.picker(60, 60, -1), q.picker(61, 60, -1), q.picker(40, 40, -1), q.picker(39, 50, -1), q.picker(50, 39, -1)), "0 1 0 -1 -1");
            is("at the edges of the field", all(q.picker(0, 0, -1), q.picker(199, 199, -1), field("kite a 199 0;").picker(199, 0, -1)), "-1 -1 0");
        });
        says("- `x`: 0 to 199", () -> is("x alone decides", all(field("kite a 9 9;").picker(19, 9, -1), field("kite a 9 9;").picker(20, 9, -1)), "0 -1"));
        says("- `y`: 0 to 199", () -> is("y alone decides", all(field("kite a 9 9;").picker(9, 19, -1), field("kite a 9 9;").picker(9, 20, -1)), "0 -1"));
        says("Returns number of the kite (section 2c);", () -> {
            KiteQuarrel q = field("kite a 50 50;kite b 53 50;kite c 52 51;kite d 50 47;");
            is("the least sum", all(q.picker(50, 50, -1), q.picker(52, 50, -1), q.picker(53, 51, -1)), "0 1 1");
            is("equal sums", all(q.picker(51, 50, 0), q.picker(50, 50, 0), q.picker(50, 49, 0)), "1 1 3");
            is("not the one told", all(q.picker(50, 50, 0), q.picker(50, 50, 1), q.picker(50, 47, 3)), "1 0 0");
            KiteQuarrel five = field("kite a 50 50 out 30;kite b 51 50 out 7;kite c 52 50 out 20;kite d 53 50 out 3;kite e 54 50;wind 0 0 0;pick 9;slack 99;");
            five.launch(0);
            five.launch(2);
            five.launch(3);
            five.letGo(2);
            five.letGo(3);
            five.set(5, 0);
            five.run(1);
            five.set(5, 9);
            is("states", states(five), "01231");
            is("by one that flies or is down", all(five.picker(50, 50, -1), five.picker(51, 50, -1), five.picker(52, 50, -1), five.picker(53, 50, -1), five.picker(53, 50, 4)), "0 1 1 4 1");
            KiteQuarrel away = launched(1, "kite a 50 60;");
            away.walk(0, 100, 120);
            is("by where the flyer is, not the kite", all(away.picker(100, 120, -1), away.picker(110, 130, -1), away.picker(50, 60, -1), away.picker(50, 120, -1), away.picker(100, 60, -1)), "0 0 -1 -1 -1");
            KiteQuarrel picked = launched(1, "kite a 50 50 out 3;kite b 59 50;wind 0 0 0;");
            picked.letGo(0);
            picked.run(1);
            is("not one that was picked up", all(picked.kite(0, 0), picked.picker(50, 50, -1), picked.picker(50, 50, 1)), "4 1 -1");
        });
        says("NONE if nobody would.", () -> {
            is("no kite", new KiteQuarrel().picker(0, 0, -1), -1);
            is("beyond PICK 0", all(field("kite a 9 9;pick 0;").picker(9, 9, -1), field("kite a 9 9;pick 0;").picker(9, 10, -1), field("kite a 9 9;pick 0;").picker(8, 9, -1)), "0 -1 -1");
            is("the only one is not asked", field("kite a 9 9;").picker(9, 9, 0), -1);
        });
    }

    private static void gap() {
        place("Promise 24");
        says("Returns the distance between two kites, whatever their states are.", () -> {
            KiteQuarrel q = five();
            is("of each state to the first", all(q.gap(0, 1), q.gap(0, 2), q.gap(0, 3), q.gap(0, 4)), "60 113 198 61");
            is("down and picked up", q.gap(1, 4), 2);
        });
        says("- `other`: number of a kite, also the same", () -> is("the same", all(five().gap(0, 0), five().gap(4, 4)), "0 0"));
        says("Returns the distance between their places and heights, rounded down (as a span is), but at most 400.", () -> {
            int[][] rows = {{3, 4, 5}, {3, 3, 4}, {1, 1, 1}, {1, 0, 1}, {2, 2, 2}, {199, 0, 199}, {199, 199, 281}, {20, 21, 29}, {20, 20, 28}};
            for (int[] row : rows) {
                KiteQuarrel q = field("kite a 0 0;kite b " + row[0] + " " + row[1] + ";");
                is("of " + row[0] + ", " + row[1], all(q.gap(0, 1), q.gap(1, 0)), row[2] + " " + row[2]);
            }
            KiteQuarrel heights = launched(2, "kite a 0 0 out 20;kite b 9 12 out 4;kite c 0 21;");
            is("with heights", all(heights.gap(0, 1), heights.gap(0, 2), heights.gap(1, 2)), "21 29 13");
            is("a place, not the flyer's", all(moved().gap(0, 1), moved().gap(1, 0)), "5 5");
            // 199 squared is 39601: the height 283 makes it 159291, 399 squared is 159201; 284 and 285 make 159858 and 160427
            is("just below", all(gapAt(282), gapAt(283)), "398 399");
            is("at most 400", all(gapAt(284), gapAt(285), gapAt(286), gapAt(290), gapAt(299), gapAt(300)), "399 400 400 400 400 400");
        });
    }

    /** Kite a has gone from (50,50) to (53,54) and down to the ground, as its flyer has not; b stands where a's flyer does. */
    private static KiteQuarrel moved() {
        KiteQuarrel q = launched(1, "kite a 50 50 out 20;kite b 50 50;wind 0 3 4;slack 0;sink 20;");
        q.pull(0, 90);
        q.run(1);
        return q;
    }

    /** The gap of a kite at a corner at the height told, and of one on the ground at the corner across. */
    private static int gapAt(int height) {
        KiteQuarrel q = high(0, 0, "kite b 199 199;");
        int rest = height - 290;
        q.reel(0, rest > 0 ? -1 : 0);
        q.set(2, Math.max(0, Math.min(9, rest)));
        if (rest > 0) q.pull(0, 380);
        if (rest < 0) {
            q.set(0, 0);
            q.set(3, -rest);
            q.pull(0, 400);
        }
        if (rest != 0) q.run(1);
        if (rest > 9) {
            q.pull(0, 390);
            q.run(1);
        }
        if (q.kite(0, 3) != height) throw new IllegalStateException("the height is " + q.kite(0, 3));
        return q.gap(0, 1);
    }

    private static void nearest() {
        place("Promise 25");
        says("Finds the kite nearest to a kite, seen from above.", () -> {
            KiteQuarrel q = launched(3, "kite a 50 50 out 1;kite b 53 54 out 1;kite c 50 54 out 20;");
            is("the heights do not count", all(q.nearest(0), q.nearest(1), q.nearest(2)), "2 2 1");
        });
        says("- `kite`: number of a kite, whatever its state is", () -> {
            KiteQuarrel q = five();
            is("one flies", all(q.nearest(0), q.nearest(1), q.nearest(2), q.nearest(3), q.nearest(4)), "-1 0 0 0 0");
        });
        says("Returns of all other kites that fly the one with the least sum of the squares of the differences of x and of y, the smallest number on a tie;", () -> {
            KiteQuarrel q = launched(5, "kite a 50 50;kite b 55 50;kite c 53 54;kite d 47 46;kite e 50 56;kite f 50 50;");
            is("25, 25, 25, 36", all(q.nearest(0), q.nearest(5)), "1 0");
            q.letGo(1);
            is("25, 25, 36", q.nearest(0), 2);
            q.letGo(2);
            q.letGo(3);
            is("36", q.nearest(0), 4);
            KiteQuarrel squares = launched(3, "kite a 50 50;kite b 57 50;kite c 55 55;");
            is("49 and 50, though the sums of the differences are 7 and 10", squares.nearest(0), 1);
            KiteQuarrel other = launched(3, "kite a 50 50;kite b 58 50;kite c 55 55;");
            is("64 and 50, though the sums of the differences are 8 and 10", other.nearest(0), 2);
            KiteQuarrel aside = launched(3, "kite a 50 90;kite b 57 90;kite c 50 96;");
            is("49 and 36", all(aside.nearest(0), aside.nearest(1), aside.nearest(2)), "2 0 0");
            aside.walk(0, 57, 96);
            aside.walk(1, 50, 91);
            aside.walk(2, 0, 0);
            is("the kites' places, not the flyers'", all(aside.nearest(0), aside.nearest(1), aside.nearest(2)), "2 0 0");
            aside.walk(0, 50, 80);
            is("nor that of its own flyer", aside.nearest(0), 2);
            KiteQuarrel same = launched(2, "kite a 50 50;kite b 50 50;");
            is("at one place", all(same.nearest(0), same.nearest(1)), "1 0");
            is("across the field", launched(2, "kite a 0 0;kite b 199 199;").nearest(0), 1);
        });
        says("NONE if there is none.", () -> is("alone, or none flies", all(launched(1, "kite a 9 9;").nearest(0), ten(0, "").nearest(9), drifting().nearest(1)), "-1 -1 -1"));
    }

    private static void upwind() {
        place("Promise 26");
        says("Tells whether a kite is upwind of its flyer, by the wind at its height.", () -> {
            KiteQuarrel at = launched(1, "kite a 50 50 out 20;wind 0 1 0;wind 20 -1 0;");
            KiteQuarrel below = launched(1, "kite a 50 50 out 19;wind 0 1 0;wind 20 -1 0;");
            at.walk(0, 40, 50);
            below.walk(0, 40, 50);
            is("at 20 and at 19", all(at.upwind(0), below.upwind(0)), "1 -1");
            at.pull(0, 19);
            below.pull(0, 20);
            is("whatever is out", all(at.upwind(0), below.upwind(0)), "1 -1");
        });
        says("Returns with s as the sum of the difference of x from the flyer to the kite times the wind's speed for x, and likewise for y: 1 if s is below 0 (upwind), 0 if s is 0, "
            + "-1 if it is above 0 (downwind).", () -> {
                int[][] rows = {{0, 0, 0}, {1, 0, 1}, {-1, 0, -1}, {0, 1, -1}, {0, -1, 1}, {3, 2, 0}, {-3, -2, 0}, {2, 1, 1}, {1, 1, -1}, {-4, -3, 1}, {-5, -3, -1}};
                for (int[] row : rows) {
                    KiteQuarrel q = launched(1, "kite a 50 90 out 20;wind 0 -2 3;");
                    q.walk(0, 50 - row[0], 90 - row[1]);
                    is("differences " + row[0] + ", " + row[1], q.upwind(0), row[2]);
                }
                KiteQuarrel none = launched(1, "kite a 50 50 out 20;wind 0 0 0;");
                none.walk(0, 0, 199);
                is("no wind", none.upwind(0), 0);
                KiteQuarrel far = launched(1, "kite a 199 199 out 20;wind 0 9 9;");
                far.walk(0, 0, 0);
                is("far", far.upwind(0), -1);
            });
    }

    /** The line of c goes over those of a, b and d; its toughness is 99, so that it is not cut. */
    private static KiteQuarrel threatened(int a, int b, int d) {
        KiteQuarrel q = launched(4, "kite a 20 50 sharp " + a + " out 60;kite b 30 50 sharp " + b + " out 60;kite c 60 45 sharp 2 tough 99 out 60;kite d 40 50 sharp " + d + " out 60;"
            + "wind 0 0 0;slack 99;reach 50;");
        q.walk(0, 20, 40);
        q.walk(1, 30, 40);
        q.walk(2, 10, 45);
        q.walk(3, 40, 40);
        return q;
    }

    private static void threat() {
        place("Promise 27");
        says("Finds the kite by which the line of a kite would be cut, if it was cut now.", () -> {
            is("the first, the second, the last", all(threatened(3, 2, 1).threat(2), threatened(1, 3, 2).threat(2), threatened(1, 2, 3).threat(2)), "0 1 3");
            is("the last two of ten", all(lastTwo().threat(8), lastTwo().threat(9), lastTwo().threat(0)), "9 8 -1");
            is("by c", all(threatened(1, 1, 1).threat(0), threatened(1, 1, 1).threat(1), threatened(1, 1, 1).threat(3)), "2 2 2");
        });
        says("Returns number of the kite that rubs it and would bring the most wear, the smallest one on a tie;", () -> {
            is("ties", all(threatened(2, 2, 2).threat(2), threatened(1, 2, 2).threat(2), threatened(2, 1, 2).threat(2)), "0 1 0");
            KiteQuarrel q = threatened(1, 2, 3);
            q.reel(0, 2);
            is("3, 2 and 3", q.threat(2), 0);
            q.reel(1, -1);
            is("3, 4 and 3", q.threat(2), 1);
            is("no wear at all", all(threatened(0, 0, 0).threat(2), threatened(0, 0, 1).threat(2)), "0 3");
            q.letGo(1);
            q.letGo(0);
            is("one that drifts does not rub", q.threat(2), 3);
            is("the last of ten", tenthIsSharp().threat(0), 9);
        });
        says("NONE if none rubs it.", () -> {
            KiteQuarrel q = crossed("", "", "reach 2;");
            is("they cross alone", all(q.threat(0), q.threat(1)), "-1 -1");
            is("in each state", all(five().threat(0), five().threat(1), five().threat(2), five().threat(3), five().threat(4)), "-1 -1 -1 -1 -1");
        });
    }

    private static KiteQuarrel tenthIsSharp() {
        KiteQuarrel q = tenCrossed("");
        q.reel(9, 1);
        return q;
    }

    private static void sum() {
        place("Promise 28");
        says("Returns the sum of a number over all kites.", () -> {
            KiteQuarrel q = crossed("sharp 2 tough 9", "sharp 3 tough 4", "kite cy 0 0;");
            String sums = "";
            for (int what = 0; what <= 13; what++) sums += q.sum(what) + " ";
            is("all", sums, "1 95 110 40 85 90 70 0 6 33 0 0 -3 -3 ");
        });
        says("- `what`: as for kite", () -> {
            KiteQuarrel q = five();
            for (int what = 0; what <= 13; what++) {
                int sum = 0;
                for (int kite = 0; kite < 5; kite++) sum += q.kite(kite, what);
                is("sum " + what, q.sum(what), sum);
            }
        });
        says("Returns the sum (NONE counts as -1).", () -> {
            is("NONE", all(ten(0, "").sum(12), ten(0, "").sum(13), five().sum(12), behindTheCut().sum(13)), "-10 -10 -3 -1");
            is("of no kite", all(new KiteQuarrel().sum(0), new KiteQuarrel().sum(13)), "0 0");
        });
    }

    private static void inBox() {
        place("Promise 30");
        says("Returns the kites over a part of the field, whatever their states are.", () -> is("all five", five().inBox(0, 0, 199, 199), 31));
        says("- `x`: least x", () -> is("x", all(field("kite a 5 9;").inBox(5, 0, 199, 199), field("kite a 5 9;").inBox(6, 0, 199, 199)), "1 0"));
        says("- `y`: least y", () -> is("y", all(field("kite a 5 9;").inBox(0, 9, 199, 199), field("kite a 5 9;").inBox(0, 10, 199, 199)), "1 0"));
        says("- `toX`: greatest x", () -> is("toX", all(field("kite a 5 9;").inBox(0, 0, 5, 199), field("kite a 5 9;").inBox(0, 0, 4, 199)), "1 0"));
        says("- `toY`: greatest y", () -> is("toY", all(field("kite a 5 9;").inBox(0, 0, 199, 9), field("kite a 5 9;").inBox(0, 0, 199, 8)), "1 0"));
        says("Returns the set of the kites whose places lie there (the ends included).", () -> {
            KiteQuarrel q = field("kite a 0 0;kite b 199 199;kite c 0 199;kite d 199 0;");
            is("corners", all(q.inBox(0, 0, 0, 0), q.inBox(199, 199, 199, 199), q.inBox(0, 199, 0, 199), q.inBox(199, 0, 199, 0), q.inBox(1, 1, 198, 198), q.inBox(0, 0, 199, 199)), "1 2 4 8 0 15");
            is("the kite's place, not the flyer's", all(crossed("", "", "").inBox(50, 50, 50, 50), crossed("", "", "").inBox(40, 50, 40, 50), crossed("", "", "").inBox(45, 60, 45, 60),
                crossed("", "", "").inBox(45, 40, 45, 40)), "1 0 2 0");
            is("of no kite", new KiteQuarrel().inBox(0, 0, 199, 199), 0);
            is("ten", ten(5, "").inBox(100, 100, 100, 100), 1023);
        });
    }

    private static void heights() {
        place("Promise 31");
        says("Returns the difference between the heights of the highest and of the lowest kite that fly.", () -> {
            KiteQuarrel q = launched(3, "kite a 9 9 out 8;kite b 9 9 out 20;kite c 9 9 out 5;kite d 9 9;");
            is("20 less 5", q.spread(), 15);
            q.pull(0, 1);
            q.pull(1, 400);
            is("whatever is out", q.spread(), 15);
            is("the last two of ten", lastTwo().spread(), 1);
            q.letGo(2);
            is("one that drifts does not count", q.spread(), 12);
        });
        says("Returns the difference;", () -> {
            is("one alone", launched(1, "kite a 9 9 out 20;").spread(), 0);
            is("ties", ten(10, "").spread(), 0);
            is("the least", launched(2, "kite a 9 9 out 1;kite b 9 9 out 400;").spread(), 19);
            KiteQuarrel high = high(9, 9, "kite b 9 9 out 1;");
            high.pull(0, 389);
            high.run(1);
            high.set(2, 1);
            high.pull(0, 399);
            high.run(1);
            high.launch(1);
            is("the most", high.spread(), 299);
            high.letGo(1);
            is("one alone at 300", all(high.spread(), high.meanHeight(), high.highest()), "0 300.0 0");
        });
        says("NONE if none flies.", () -> is("no kite, none that flies", all(new KiteQuarrel().spread(), ten(0, "").spread(), drifting().spread()), "-1 -1 -1"));
        place("Promise 32");
        says("Returns the mean height of the kites that fly: their sum divided by their number, both converted to double.", () -> {
            KiteQuarrel q = launched(3, "kite a 9 9 out 20;kite b 9 9 out 20;kite c 9 9 out 9;kite d 9 9;");
            is("49 of 3", q.meanHeight(), 49.0 / 3.0);
            q.pull(1, 400);
            is("whatever is out", q.meanHeight(), 49.0 / 3.0);
            is("the last two of ten", lastTwo().meanHeight(), 19.5);
            q.letGo(0);
            is("29 of 2", q.meanHeight(), 14.5);
        });
        says("Returns the mean;", () -> is("one, ten", all(launched(1, "kite a 9 9 out 1;").meanHeight(), ten(10, "").meanHeight(), ten(7, "").meanHeight()), "1.0 10.0 10.0"));
        says("0.0 if none flies.", () -> is("no kite, none that flies", all(new KiteQuarrel().meanHeight(), ten(0, "").meanHeight(), drifting().meanHeight()), "0.0 0.0 0.0"));
    }

    private static void left() {
        place("Promise 33");
        says("Returns the part of toughness that a line has left: its toughness less its wear (at least 0), divided by its toughness, both converted to float.", () -> {
            KiteQuarrel q = bobIsCutInTwo();
            q.run(1);
            is("6 of 9, 2 of 4", all(q.left(0), q.left(1)), all(6f / 9f, 0.5f));
            q.run(1);
            is("none left", q.left(1), 0.0f);
            KiteQuarrel worn = crossed("sharp 9", "tough 4", "");
            worn.run(1);
            is("worn by more than it has", all(worn.kite(1, 10), worn.left(1)), "9 0.0");
            KiteQuarrel one = crossed("sharp 1", "tough 99", "");
            one.run(19);
            is("80 of 99", one.left(1), 80f / 99f);
        });
        says("Returns the quotient.", () -> {
            is("a whole line without sharpness", field("kite a 1 1 sharp 0 tough 7;").left(0), 1.0f);
            is("whole lines", all(field("kite a 1 1 tough 1;").left(0), field("kite a 1 1 tough 99;").left(0), launched(1, "kite a 1 1;").left(0)), "1.0 1.0 1.0");
            is("of each state", all(five().left(0), five().left(1), five().left(2), five().left(3), five().left(4)), "1.0 1.0 1.0 1.0 1.0");
        });
    }
}
