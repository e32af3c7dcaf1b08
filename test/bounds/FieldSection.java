/** Section 1: the field, winds, kites; and the first words of the document. */
final class FieldSection extends Sentences {
    private FieldSection() {
    }

    static void hold() {
        place("What it is");
        says("An object is used for at most 512 calls after it has been made; what later calls answer is free.", FieldSection::manyCalls);
        says("Kites over a field: each one flies in winds that differ by height, on a line that its flyer reels in and out; lines that go taut or slack, kites that climb and sink, "
            + "lines that cross, rub and are cut, kites that drift and fall, and who picks them up.", FieldSection::wholeStory);
        place("Section 1");
        places();
        winds();
        kites();
        lines();
        spans();
    }

    private static void manyCalls() {
        KiteQuarrel q = launched(1, "kite a 50 50 out 20;wind 0 0 0;");
        // feed three times, truncate twice, parse and launch are seven calls
        for (int n = 7; n < 500; n++) q.reel(0, n % 7);
        is("the 501st call", q.count(12), 10);
        for (int n = 501; n < 511; n++) q.undo();
        is("the 512th call", q.kite(0, 7), 489 % 7);
        KiteQuarrel dear = tenCrossed("pick 0;");
        // more than 40 calls went before
        for (int n = 60; n < 510; n++) dear.boldReel(n % 10, 50);
        is("the dearest forecast once more", all(dear.boldReel(0, 50), dear.cutsIn(100)), "-9 10");
    }

    private static void wholeStory() {
        KiteQuarrel q = bobIsCutInTwo();
        q.run(7);
        is("bob is cut, falls and is picked up", events(q), "0l0 0l1 1c1/0 6f1 6p1/0");
    }

    private static void places() {
        says("All numbers are whole.", () -> {
            // the span of 1, 0, 1 is between 1 and 2; half of the slack 1 is nothing
            KiteQuarrel q = launched(1, "kite a 50 50 out 1;");
            q.walk(0, 49, 50);
            is("span and slack", all(q.span(0), q.slack(0)), "1 0");
        });
        says("The field has places x and y, 0 to 199 each,", () -> {
            is("the least and the most", parsed("kite a 0 0;kite b 199 199;"), "2 kites");
            is("x above", parsed("kite a 200 199;"), "error 2 7");
            is("y above", parsed("kite a 199 200;"), "error 2 11");
            is("x below", parsed("kite a -1 0;"), "error 1 7");
            is("from corner to corner", field("kite a 0 199;").walk(0, 199, 0), 398);
        });
        says("and heights from 0 (the ground) to 300.", () -> {
            KiteQuarrel q = high(50, 50, "");
            is("on the way", place(q, 0), "0 50 50 290 290");
            q.pull(0, 389);
            q.run(1);
            is("299", q.kite(0, 3), 299);
            q.set(2, 1);
            q.pull(0, 399);
            q.run(1);
            is("300", q.kite(0, 3), 300);
            q.pull(0, 400);
            q.run(1);
            is("no more than 300", q.kite(0, 3), 300);
            is("the wind at 300", q.windAt(300), 0);
            is("on the ground", field("kite a 0 0;").kite(0, 3), 0);
        });
    }

    private static void winds() {
        says("There are 1 to 4 winds,", () -> {
            is("of a new object", new KiteQuarrel().count(1), 1);
            is("of a text without", field("kite a 1 1;").count(1), 1);
            is("one", field("wind 0 1 1;").count(1), 1);
            is("four", field("wind 0 1 1;wind 1 1 1;wind 2 1 1;wind 3 1 1;").count(1), 4);
            is("five", parsed("wind 0 1 1;wind 1 1 1;wind 2 1 1;wind 3 1 1;wind 4 1 1;"), "error 4 44");
        });
        says("numbered from 0 in ascending order of their lowest heights, of which the first one is 0.", () -> {
            KiteQuarrel q = field("wind 0 1 1;wind 1 2 2;wind 299 3 3;wind 300 4 4;");
            is("lowest heights", all(q.wind(0, 0), q.wind(1, 0), q.wind(2, 0), q.wind(3, 0)), "0 1 299 300");
            is("speeds", all(q.wind(0, 1), q.wind(1, 1), q.wind(2, 1), q.wind(3, 1)), "1 2 3 4");
            is("the first not at 0", parsed("wind 1 1 1;"), "error 2 5");
        });
        says("A wind has two speeds, for x and for y (-9 to 9 each).", () -> {
            KiteQuarrel q = field("wind 0 -9 9;wind 1 9 -9;");
            is("least and most", wind(q, 0) + ", " + wind(q, 1), "0 -9 9 9, 1 9 -9 9");
            is("x above", parsed("wind 0 10 0;"), "error 2 7");
            is("y above", parsed("wind 0 0 10;"), "error 2 9");
            is("x below", parsed("wind 0 -10 0;"), "error 2 8");
            is("y below", parsed("wind 0 0 -10;"), "error 2 10");
        });
        says("The wind at a height is the one with the greatest lowest height that is not above it.", () -> {
            KiteQuarrel q = field("wind 0 1 1;wind 20 2 2;wind 21 3 3;wind 300 4 4;");
            is("at, below and above each lowest height", all(q.windAt(0), q.windAt(19), q.windAt(20), q.windAt(21), q.windAt(22), q.windAt(299), q.windAt(300)), "0 0 1 2 2 2 3");
            is("one wind alone", all(new KiteQuarrel().windAt(0), new KiteQuarrel().windAt(300)), "0 0");
        });
        says("Its force is the greater one of the absolute values of its two speeds.", () -> {
            KiteQuarrel q = field("wind 0 -9 8;wind 1 8 -9;wind 2 -3 3;wind 3 0 0;");
            is("forces", all(q.wind(0, 3), q.wind(1, 3), q.wind(2, 3), q.wind(3, 3)), "9 9 3 0");
            KiteQuarrel r = field("wind 0 0 1;wind 1 1 0;wind 2 -1 0;wind 3 0 -1;");
            is("forces of 1", all(r.wind(0, 3), r.wind(1, 3), r.wind(2, 3), r.wind(3, 3)), "1 1 1 1");
        });
    }

    private static void kites() {
        says("There are at most 10 kites,", () -> {
            is("none", parsed(""), "0 kites");
            is("ten", parsed(tenKites()), "10 kites");
            is("eleven", parsed(tenKites() + "kite k 1 1;"), "error 4 " + tenKites().length());
        });
        says("numbered from 0 in the order in which they came.", () -> {
            KiteQuarrel q = field("kite z 3 1;wind 0 1 1;kite a 1 2;kite m 2 3;");
            is("numbers", all(found(q, "z"), found(q, "a"), found(q, "m")), "0 1 2");
            is("places", all(q.kite(0, 1), q.kite(1, 1), q.kite(2, 1)), "3 1 2");
            is("the tenth", found(ten(0, ""), "j"), 9);
        });
        says("A kite has a flyer, who stands on the ground at a place;", () -> {
            KiteQuarrel q = launched(1, "kite a 0 199 out 20;wind 0 9 -9;");
            q.run(1);
            is("the flyer stays", all(q.kite(0, 4), q.kite(0, 5)), "0 199");
        });
        says("a place and a height of its own;", () -> {
            KiteQuarrel q = launched(1, "kite a 0 199 out 20;wind 0 9 -9;slack 0;");
            is("the kite moves", q.kiteIn(0, 1, 1) > 0 && q.kiteIn(0, 2, 1) < 199, true);
        });
        says("and a state: 0 flies, 1 down, 2 drifts, 3 fell, 4 picked up.", () -> is("states", states(five()), "01234"));
    }

    private static void lines() {
        says("a line, of which some length is out (1 to 400),", () -> {
            KiteQuarrel q = field("kite a 1 1 out 1;kite b 1 1 out 400;");
            is("least and most", all(q.kite(0, 6), q.kite(1, 6)), "1 400");
            is("below", parsed("kite a 1 1 out 0;"), "error 2 15");
            is("above", parsed("kite a 1 1 out 401;"), "error 2 15");
            is("pulled to the most and the least", all(q.pull(0, 400), q.pull(0, 1), q.kite(0, 6)), "1 400 1");
        });
        says("with a sharpness (0 to 9),", () -> {
            KiteQuarrel q = field("kite a 1 1 sharp 0;kite b 1 1 sharp 9;");
            is("least and most", all(q.kite(0, 8), q.kite(1, 8)), "0 9");
            is("above", parsed("kite a 1 1 sharp 10;"), "error 2 17");
        });
        says("a toughness (1 to 99)", () -> {
            KiteQuarrel q = field("kite a 1 1 tough 1;kite b 1 1 tough 99;");
            is("least and most", all(q.kite(0, 9), q.kite(1, 9)), "1 99");
            is("below", parsed("kite a 1 1 tough 0;"), "error 2 17");
            is("above", parsed("kite a 1 1 tough 100;"), "error 2 17");
        });
        says("and wear (0 at first);", () -> is("wear", all(field("kite a 1 1;").kite(0, 10), launched(1, "kite a 1 1;").kite(0, 10)), "0 0"));
        says("a reel (-9 to 9: by how much the length out changes in a tick);", () -> {
            for (int reel : new int[] {-9, -1, 0, 1, 9}) {
                KiteQuarrel q = launched(1, "kite a 50 50 out 30;wind 0 0 0;slack 99;");
                q.reel(0, reel);
                q.run(1);
                is("out with the reel " + reel, q.kite(0, 6), 30 + reel);
                q.run(1);
                is("out in the second tick with the reel " + reel, q.kite(0, 6), 30 + 2 * reel);
            }
        });
    }

    private static void spans() {
        says("The span of a kite that flies is the distance between its flyer (at height 0) and itself, rounded down: the greatest whole number whose square is not greater than the sum "
            + "of the squares of the differences of x, of y and of the height.", () -> {
            // rows: the height, the flyer's differences, the span; squares and one less than squares among the sums
            int[][] rows = {{1, 0, 0, 1}, {1, 1, 0, 1}, {1, 1, 1, 1}, {2, 0, 0, 2}, {2, 2, 0, 2}, {2, 2, 1, 3}, {2, 2, 2, 3}, {3, 4, 0, 5}, {4, 2, 2, 4}, {5, 3, 1, 5},
                {20, 0, 0, 20}, {20, 21, 0, 29}, {20, 0, -21, 29}, {20, -20, 6, 28}, {20, 1, 0, 20}, {20, 6, 2, 20}, {20, 5, 4, 21}, {16, 15, 0, 21}, {16, 12, 15, 25},
                {15, 16, 0, 21}, {7, 12, 12, 18}, {6, 12, 12, 18}, {1, 199, 0, 199}, {1, 180, 182, 255}, {1, 181, 182, 256}, {1, 182, 182, 257}, {1, 90, 90, 127}, {1, 90, 91, 127}, {2, 91, 91, 128}, {20, 199, 199, 282}, {19, 199, 199, 282}};
            for (int[] row : rows) {
                KiteQuarrel q = launched(1, "kite a " + (row[1] < 0 ? 0 : row[1]) + " " + (row[2] < 0 ? 0 : row[2]) + " out " + row[0] + ";");
                q.walk(0, row[1] < 0 ? -row[1] : 0, row[2] < 0 ? -row[2] : 0);
                is("span of " + row[1] + ", " + row[2] + ", " + row[0], q.span(0), row[3]);
            }
            KiteQuarrel q = high(0, 0, "");
            q.walk(0, 199, 199);
            is("from corner to corner at 290", q.span(0), 404);
        });
        says("Its slack is the length out less the span.", () -> {
            KiteQuarrel q = launched(1, "kite a 50 50 out 29;");
            q.walk(0, 50, 29);
            is("none", q.slack(0), 0);
            q.pull(0, 30);
            is("1", q.slack(0), 1);
            q.pull(0, 28);
            is("below 0", q.slack(0), -1);
            q.pull(0, 400);
            is("the most", q.slack(0), 371);
            q.pull(0, 1);
            q.walk(0, 199, 199);
            is("far below 0", q.slack(0), 1 - 211);
        });
    }
}
