/** Section 5: the events that are kept. */
final class EventSection extends Sentences {
    private EventSection() {
    }

    static void hold() {
        place("Section 5");
        says("The latest 12 events are kept, numbered from 0 for the earliest one that is kept:", EventSection::twelve);
        says("a time (the time of the tick ahead of its end),", () -> {
            KiteQuarrel q = launched(1, "kite a 50 50 out 4;wind 0 0 0;");
            q.letGo(0);
            q.run(1);
            is("of the first tick", event(q, 1), "0 2 0 -1 50 50");
            KiteQuarrel late = late(4999, "kite a 50 50 out 4;wind 0 0 0;");
            late.launch(0);
            late.letGo(0);
            late.run(1);
            is("of the last tick", all(late.event(0, 0), late.event(1, 0)), "4999 4999");
        });
        kinds();
        says("Events of one tick come in the order in which they are told in section 2.", () -> {
            // b goes down, ann and bob cut one another, f falls and is picked up by b's flyer
            KiteQuarrel q = launched(4, "kite f 45 70 out 4;kite ann 50 50 sharp 2 tough 3 out 30;kite bob 45 60 sharp 3 tough 2 out 30;kite b 45 75 out 10;wind 0 0 0;slack 9;sink 20;");
            q.walk(1, 40, 50);
            q.walk(2, 45, 40);
            q.pull(3, 50);
            q.letGo(0);
            is("cuts", q.run(1), 2);
            is("down, cuts, fall, picking up", events(q), "0l0 0l1 0l2 0l3 0d3 0c1/2 0c2/1 0f0 0p0/3");
            is("the places", event(q, 4) + ", " + event(q, 5) + ", " + event(q, 6) + ", " + event(q, 7) + ", " + event(q, 8),
                "0 0 3 -1 45 75, 0 1 1 2 45 50, 0 1 2 1 45 50, 0 2 0 -1 45 70, 0 3 0 3 45 70");
        });
    }

    private static void twelve() {
        KiteQuarrel q = ten(0, "wind 0 0 0;slack 0;sink 20;");
        is("none", all(q.count(8), Checks.answerOf(() -> q.event(0, 0))), "0 " + Checks.INDEX);
        for (int kite = 0; kite < 10; kite++) {
            q.launch(kite);
            is("launches", all(q.count(8), q.event(0, 2), q.event(kite, 2)), all(kite + 1, 0, kite));
        }
        q.pull(0, 50);
        q.run(1);
        is("eleven", all(q.count(8), q.event(0, 2), q.event(10, 1), q.event(10, 2)), "11 0 0 0");
        q.launch(0);
        is("twelve", all(q.count(8), q.event(0, 1), q.event(0, 2), q.event(11, 0), q.event(11, 1), q.event(11, 2)), "12 4 0 1 4 0");
        is("no thirteenth", Checks.answerOf(() -> q.event(12, 0)), Checks.INDEX);
        q.pull(1, 50);
        q.run(1);
        is("two more, in one tick: the first two are gone", events(q), "0l2 0l3 0l4 0l5 0l6 0l7 0l8 0l9 0d0 1l0 1d0 1d1");
        q.launch(1);
        is("one more", events(q), "0l3 0l4 0l5 0l6 0l7 0l8 0l9 0d0 1l0 1d0 1d1 2l1");
        for (int kite = 1; kite < 10; kite++) q.pull(kite, 50);
        q.run(1);
        is("nine in one tick", events(q), "1d0 1d1 2l1 2d1 2d2 2d3 2d4 2d5 2d6 2d7 2d8 2d9");
        aroundOnceMore();
    }

    /** More than 24 events are behind the twelve. */
    private static void aroundOnceMore() {
        KiteQuarrel q = ten(10, "wind 0 0 0;slack 0;sink 20;");
        for (int n = 0; n < 3; n++) {
            for (int kite = 0; kite < 10; kite++) q.pull(kite, 50);
            q.run(1);
            for (int kite = 0; kite < 10; kite++) q.launch(kite);
        }
        is("around once more", all(q.count(8), events(q)), "12 2d8 2d9 3l0 3l1 3l2 3l3 3l4 3l5 3l6 3l7 3l8 3l9");
        for (int kite = 0; kite < 10; kite++) q.pull(kite, 50);
        q.set(5, 0);
        q.run(1);
        for (int kite = 9; kite >= 0; kite--) q.launch(kite);
        is("more than 24 behind the twelfth", all(q.count(8), events(q)), "12 3d8 3d9 4l9 4l8 4l7 4l6 4l5 4l4 4l3 4l2 4l1 4l0");
        KiteQuarrel cuts = tenCrossed("");
        cuts.reel(0, 2);
        cuts.run(3);
        is("ten launches, nine cuts", all(cuts.count(8), cuts.count(9), events(cuts)),
            "12 9 0l7 0l8 0l9 1c1/0 1c2/0 1c3/0 1c4/0 1c5/0 1c6/0 1c7/0 1c8/0 1c9/0");
    }

    private static void kinds() {
        says("a kind, a kite, and another kite: 0 a kite went down (none), 1 a line was cut (by whom), 2 a kite fell (none), 3 a kite was picked up (by whose flyer), "
            + "4 a kite was launched (none;", () -> {
                KiteQuarrel q = bobIsCutInTwo();
                q.run(7);
                is("launches", event(q, 0) + ", " + event(q, 1), "0 4 0 -1 50 50, 0 4 1 -1 45 60");
                is("the cut, at the crossing", event(q, 2), "1 1 1 0 45 50");
                is("the fall", event(q, 3), "6 2 1 -1 45 60");
                is("the picking up", event(q, 4), "6 3 1 0 45 60");
                q.set(0, 0);
                q.set(3, 20);
                q.run(1);
                is("down", event(q, 5), "7 0 0 -1 50 50");
            });
        says("the time is the present one).", () -> {
            KiteQuarrel q = late(5000, "kite a 50 50;");
            q.launch(0);
            is("at the last moment", event(q, 0), "5000 4 0 -1 50 50");
            KiteQuarrel first = launched(1, "kite a 50 50;");
            is("at the first moment", event(first, 0), "0 4 0 -1 50 50");
        });
    }
}
