/** Promises 43 to 52: changes. (That they can be undone stands in ChangeSection, what they refuse in Refusals.) */
final class ChangePromises extends Sentences {
    private ChangePromises() {
    }

    static void hold() {
        run();
        launch();
        reel();
        letGo();
        pull();
        walk();
        restring();
        setWind();
        set();
        undo();
    }

    private static void run() {
        place("Promise 43");
        says("Lets ticks pass.", () -> {
            KiteQuarrel q = new KiteQuarrel();
            q.run(1);
            is("1", q.count(2), 1);
            q.run(200);
            is("and 200", q.count(2), 201);
            KiteQuarrel once = bobIsCutInTwo(), twice = bobIsCutInTwo();
            once.run(7);
            twice.run(3);
            twice.run(4);
            is("7 are 3 and 4", numbers(once, 1) + events(once), numbers(twice, 1) + events(twice));
            is("one change each", all(once.count(12), twice.count(12)), "5 6");
        });
        says("Returns how many lines are cut in them.", () -> {
            KiteQuarrel q = bobIsCutInTwo();
            is("none, one, none", all(q.run(1), q.run(1), q.run(200)), "0 1 0");
            is("ten", all(tenCrossed("").run(200), tenCrossed("").run(2), tenCrossed("").run(3)), "10 0 10");
            is("of no kite", new KiteQuarrel().run(200), 0);
            is("a kite let go is no cut", five().run(200), 0);
        });
    }

    private static void launch() {
        place("Promise 44");
        says("Launches a kite: it flies, at the place of its flyer, at a height that is the length out, but at most 20.", () -> {
            for (int[] row : new int[][] {{1, 1}, {2, 2}, {19, 19}, {20, 20}, {21, 20}, {400, 20}}) {
                KiteQuarrel q = field("kite a 0 199 out " + row[0] + ";");
                is("out " + row[0], all(q.launch(0), numbers(q, 0)), row[1] + " 0 0 199 " + row[1] + " 0 199 " + row[0] + " 0 1 20 0 0 -1 -1");
            }
            KiteQuarrel away = launched(1, "kite a 50 50 out 20;wind 0 9 -9;slack 0;rise 0;sink 20;");
            away.pull(0, 99);
            away.reel(0, 9);
            away.run(1);
            is("down away from its flyer", numbers(away, 0), "1 59 41 0 50 50 108 9 1 20 0 0 -1 -1");
            is("at the place of its flyer", all(away.launch(0), numbers(away, 0)), "20 0 50 50 20 50 50 108 9 1 20 0 0 -1 -1");
            KiteQuarrel worn = crossed("sharp 2 tough 9", "sharp 3 tough 9", "");
            worn.run(1);
            worn.set(0, 0);
            worn.set(3, 20);
            worn.run(1);
            worn.launch(0);
            is("its wear stays", all(worn.kite(0, 0), worn.kite(0, 10)), "0 3");
            KiteQuarrel late = late(5000, "kite a 1 1;");
            is("at the last moment", all(late.launch(0), event(late, 0)), "10 5000 4 0 -1 1 1");
        });
        says("Returns its height.", () -> is("heights", all(field("kite a 1 1;").launch(0), field("kite a 1 1 out 1;").launch(0), field("kite a 1 1 out 400;").launch(0)), "10 1 20"));
    }

    private static void reel() {
        place("Promise 45");
        says("Sets the reel of a kite, whatever its state is.", () -> {
            for (int kite = 0; kite < 5; kite++) {
                KiteQuarrel q = five(), same = five();
                q.reel(kite, -9);
                is("in the state " + kite, numbers(q, kite), numbers(same, kite).replaceAll("^((?:\\S+ ){7})\\S+", "$1-9"));
            }
        });
        says("Returns the reel before.", () -> {
            KiteQuarrel q = field("kite a 1 1;");
            is("in turn", all(q.reel(0, 9), q.reel(0, -9), q.reel(0, -9), q.reel(0, 0), q.reel(0, 1)), "0 9 -9 -9 0");
        });
    }

    private static void letGo() {
        place("Promise 46");
        says("Lets a kite go: it drifts from the next tick on (this is no cut, and no event).", () -> {
            KiteQuarrel q = launched(1, "kite a 50 50 out 20;wind 0 3 -3;");
            q.letGo(0);
            is("where it is", place(q, 0), "2 50 50 20 20");
            is("no cut, no event, nobody who cut it", all(q.count(9), q.count(8), q.kite(0, 13)), "0 1 -1");
            q.run(1);
            is("in the next tick", place(q, 0), "2 53 47 16 20");
            KiteQuarrel lines = crossed("", "", "");
            lines.letGo(0);
            is("its line crosses no more", all(lines.count(10), lines.rubs(1), lines.span(0)), "0 0 -1");
            KiteQuarrel low = launched(1, "kite a 50 50 out 1;");
            low.letGo(0);
            low.run(1);
            is("from the height 1", all(low.kite(0, 0), events(low)), "3 0l0 0f0");
        });
        says("Returns its height.", () -> is("heights", all(five().letGo(0), launched(1, "kite a 1 1 out 1;").letGo(0), high(50, 50, "").letGo(0)), "20 1 290"));
    }

    private static void pull() {
        place("Promise 47");
        says("Sets the length of line that is out.", () -> {
            KiteQuarrel q = five();
            q.pull(0, 400);
            is("of one that flies", numbers(q, 0), "0 10 10 20 10 10 400 0 1 20 0 0 -1 -1");
            q.pull(1, 1);
            is("of one that is down", numbers(q, 1), "1 50 50 0 50 50 1 0 1 20 0 2 -1 -1");
        });
        says("(A line that is too short then pulls the kite in at the next tick.)", () -> {
            KiteQuarrel q = launched(1, "kite a 50 50 out 20;wind 0 0 0;");
            q.pull(0, 1);
            is("not now", place(q, 0), "0 50 50 20 1");
            is("the slack", q.slack(0), -19);
            q.run(1);
            is("at the next tick", place(q, 0), "0 50 50 1 1");
        });
        says("Returns the length out before.", () -> {
            KiteQuarrel q = launched(1, "kite a 1 1 out 7;");
            is("in turn", all(q.pull(0, 400), q.pull(0, 1), q.pull(0, 1), q.pull(0, 8), q.kite(0, 6)), "7 400 1 1 8");
        });
    }

    private static void walk() {
        place("Promise 48");
        says("Lets the flyer of a kite walk to another place.", () -> {
            KiteQuarrel q = five();
            for (int kite = 0; kite < 5; kite++) {
                q.walk(kite, 199, kite);
                is("in the state " + kite, all(q.kite(kite, 4), q.kite(kite, 5)), "199 " + kite);
            }
        });
        says("A kite that is down goes with the flyer;", () -> {
            KiteQuarrel q = five();
            q.walk(1, 0, 199);
            is("from its flyer", place(q, 1), "1 0 199 0 7");
            KiteQuarrel away = launched(1, "kite a 50 50 out 20;wind 0 9 -9;slack 0;rise 0;sink 20;");
            away.pull(0, 99);
            away.run(1);
            is("down away from its flyer", place(away, 0), "1 59 41 0 99");
            away.walk(0, 60, 70);
            is("it is with the flyer then", place(away, 0), "1 60 70 0 99");
            away.walk(0, 60, 70);
            is("and stays", place(away, 0), "1 60 70 0 99");
        });
        says("others stay.", () -> {
            KiteQuarrel q = five();
            for (int kite : new int[] {0, 2, 3, 4}) {
                q.walk(kite, 0, 199);
                is("in the state " + kite, place(q, kite), place(five(), kite));
            }
        });
        says("Returns the sum of the absolute differences of x and y.", () -> {
            KiteQuarrel q = field("kite a 50 60;");
            is("in turn", all(q.walk(0, 49, 62), q.walk(0, 49, 62), q.walk(0, 50, 62), q.walk(0, 50, 61), q.walk(0, 0, 199), q.walk(0, 199, 0), q.walk(0, 0, 199)), "3 0 1 1 188 398 398");
            KiteQuarrel flies = launched(1, "kite a 50 60;wind 0 9 9;");
            flies.run(1);
            is("of the flyer, not of the kite", flies.walk(0, 51, 60), 1);
        });
    }

    private static void restring() {
        place("Promise 49");
        says("Gives a kite a new line: sharpness and toughness as told, no wear, the length out is 10;", () -> {
            KiteQuarrel q = field("kite a 5 6 sharp 7 tough 8 out 300;");
            q.restring(0, 0, 1);
            is("the least", numbers(q, 0), "1 5 6 0 5 6 10 0 0 1 0 0 -1 -1");
            q.restring(0, 9, 99);
            is("the most", numbers(q, 0), "1 5 6 0 5 6 10 0 9 99 0 0 -1 -1");
            KiteQuarrel worn = wornAndDown();
            worn.restring(0, 1, 20);
            is("no wear, and the place stays", numbers(worn, 0), "1 53 50 0 40 50 10 5 1 20 0 3 -1 -1");
        });
        says("by whom it was cut or picked up is forgotten;", () -> {
            KiteQuarrel q = picked();
            is("before", numbers(q, 1), "4 45 60 0 45 40 30 2 3 4 4 0 0 0");
            q.restring(1, 3, 4);
            is("behind", all(q.kite(1, 12), q.kite(1, 13)), "-1 -1");
        });
        says("the reel and the points stay.", () -> {
            KiteQuarrel q = wornAndDown();
            is("before", all(q.kite(0, 7), q.kite(0, 11)), "5 3");
            q.restring(0, 1, 1);
            is("of one that is down", all(q.kite(0, 7), q.kite(0, 11)), "5 3");
            KiteQuarrel picked = picked();
            picked.restring(1, 1, 1);
            is("of one that was picked up", picked.kite(1, 7), 2);
            // e picks up c's kite, then d picks up e's
            KiteQuarrel points = launched(1, "kite c 50 50 out 3;kite d 50 58 out 3;kite e 50 60 out 3;wind 0 0 0;");
            points.letGo(0);
            points.walk(1, 199, 199);
            points.run(1);
            points.walk(1, 50, 58);
            points.launch(2);
            points.letGo(2);
            points.run(1);
            is("points of one that was picked up", all(states(points), points.kite(2, 11)), "414 2");
            points.restring(2, 1, 1);
            is("stay", all(states(points), points.kite(2, 11)), "411 2");
        });
        says("A kite that was picked up is down then, at the place of its own flyer, at the height 0.", () -> {
            KiteQuarrel q = picked();
            q.walk(1, 199, 0);
            q.restring(1, 5, 6);
            is("the whole kite", numbers(q, 1), "1 199 0 0 199 0 10 2 5 6 0 0 -1 -1");
            is("it can be launched", q.launch(1), 10);
            KiteQuarrel away = wornAndDown();
            away.restring(0, 1, 1);
            is("one that is down stays", place(away, 0), "1 53 50 0 10");
        });
        says("Returns the wear of the old line.", () -> {
            KiteQuarrel q = wornAndDown();
            is("worn, and new", all(q.restring(0, 1, 1), q.restring(0, 1, 1)), "6 0");
            is("of one that was cut and picked up", picked().restring(1, 1, 1), 4);
        });
    }

    /** Ann has cut bob and picked up bob's kite, has 6 wear of 9, the reel 5, and is down at (53,50), away from her flyer at (40,50). */
    private static KiteQuarrel wornAndDown() {
        KiteQuarrel q = bobIsCutInTwo();
        q.run(2);
        q.reel(0, 5);
        q.set(0, 0);
        q.set(1, 0);
        q.set(3, 20);
        q.setWind(0, 3, 0);
        q.pull(0, 300);
        q.run(1);
        return q;
    }

    /** Bob was cut and picked up by ann, and has the reel 2. */
    private static KiteQuarrel picked() {
        KiteQuarrel q = bobIsCutInTwo();
        q.run(7);
        q.reel(1, 2);
        return q;
    }

    private static void setWind() {
        place("Promise 50");
        says("Sets the speeds of a wind.", () -> {
            KiteQuarrel q = field("wind 0 1 2;wind 50 3 4;wind 100 5 6;wind 300 7 8;");
            q.setWind(3, -9, 9);
            q.setWind(1, 9, -9);
            is("these alone", all(wind(q, 0), wind(q, 1), wind(q, 2), wind(q, 3)), "0 1 2 2 50 9 -9 9 100 5 6 6 300 -9 9 9");
            KiteQuarrel one = new KiteQuarrel();
            one.setWind(0, 0, 0);
            is("the only one", wind(one, 0), "0 0 0 0");
        });
        says("Returns its force before.", () -> {
            KiteQuarrel q = field("wind 0 -7 6;");
            is("in turn", all(q.setWind(0, 6, -8), q.setWind(0, 0, 0), q.setWind(0, -9, -9), q.setWind(0, 1, 1)), "7 8 0 9");
        });
    }

    private static void set() {
        place("Promise 51");
        says("Sets a setting.", () -> {
            KiteQuarrel q = new KiteQuarrel();
            String[] due = {"0 2 3 4 3 10", "0 9 3 4 3 10", "0 9 0 4 3 10", "0 9 0 1 3 10", "0 9 0 1 50 10", "0 9 0 1 50 0"};
            int[] value = {0, 9, 0, 1, 50, 0};
            for (int what = 0; what < 6; what++) {
                q.set(what, value[what]);
                is("set " + what, settings(q), due[what]);
            }
        });
        says("- `what`: 0 SLACK, 1 RISE, 2 CLIMB, 3 SINK, 4 REACH, 5 PICK", () -> {
            KiteQuarrel q = launched(1, "kite a 50 50 out 26;wind 0 0 0;");
            is("SLACK at work", all(q.kiteIn(0, 3, 1), q.set(0, 6), q.kiteIn(0, 3, 1)), "16 5 20");
            q.setWind(0, 0, 1);
            is("RISE at work", all(q.set(1, 0), q.kiteIn(0, 3, 1), q.set(1, 3), q.kiteIn(0, 3, 1)), "2 20 0 23");
        });
        says("Returns the value before.", () -> {
            KiteQuarrel q = new KiteQuarrel();
            is("first values", all(q.set(0, 99), q.set(1, 9), q.set(2, 9), q.set(3, 20), q.set(4, 50), q.set(5, 50)), "5 2 3 4 3 10");
            is("then those", all(q.set(0, 0), q.set(1, 0), q.set(2, 0), q.set(3, 1), q.set(4, 0), q.set(5, 0)), "99 9 9 20 50 50");
        });
    }

    private static void undo() {
        place("Promise 52");
        says("Undoes the latest change that was not undone yet.", () -> {
            KiteQuarrel q = launched(1, "kite a 50 50 out 20;wind 0 1 0;");
            q.reel(0, 1);
            q.run(2);
            q.letGo(0);
            q.undo();
            is("letGo", all(q.count(2), q.kite(0, 0)), "2 0");
            q.undo();
            is("run", all(q.count(2), place(q, 0)), "0 0 50 50 20 20");
            q.undo();
            is("reel", q.kite(0, 7), 0);
            q.undo();
            is("launch", all(place(q, 0), q.count(8)), "1 50 50 0 20 0");
            KiteQuarrel last = late(4999, "kite a 1 1;");
            last.run(1);
            last.undo();
            is("the last tick", all(last.count(2), last.run(1), last.count(2)), "4999 0 5000");
        });
        says("Returns the number of changes that can still be undone.", () -> {
            KiteQuarrel q = field("kite a 1 1;");
            for (int n = 0; n < 12; n++) q.reel(0, n % 9);
            StringBuilder left = new StringBuilder();
            for (int n = 0; n < 10; n++) left.append(q.undo()).append(' ');
            is("of ten", left, "9 8 7 6 5 4 3 2 1 0 ");
            is("what is left", all(q.kite(0, 7), q.count(12)), "1 0");
            is("of one", launched(1, "kite a 1 1;").undo(), 0);
        });
    }
}
