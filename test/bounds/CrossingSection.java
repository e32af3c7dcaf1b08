/** Section 3: lines that cross and rub. */
final class CrossingSection extends Sentences {
    private CrossingSection() {
    }

    static void hold() {
        place("Section 3");
        says("A line is seen from above as the straight way from the flyer to the kite.", () -> {
            crossingOf("the flyers and the kites, whatever the heights", "45,50", 40, 50, 50, 50, 45, 40, 45, 60);
            crossingOf("corner to corner", "99,99", 0, 0, 199, 199, 0, 199, 199, 0);
        });
        says("Two lines cross if, seen so, both ends of each one lie strictly on different sides of the straight line through the other one", CrossingSection::strictly);
        says("(so a kite above its flyer crosses none).", () -> {
            crossingOf("above its flyer on the other line", "none", 45, 50, 45, 50, 40, 50, 50, 50);
            crossingOf("the other one", "none", 40, 50, 50, 50, 45, 50, 45, 50);
            crossingOf("both above their flyers", "none", 45, 50, 45, 50, 45, 50, 45, 50);
        });
        says("The crossing is where both meet.", () -> crossingOf("both", "30,45", 10, 45, 60, 45, 30, 40, 30, 50));
        heights();
        rubbing();
        placesOfCrossings();
    }

    /** Lines from (x, y) to (x, y) of two flyers and their kites. */
    private static KiteQuarrel lines(int... ends) {
        KiteQuarrel q = launched(2, "kite a " + ends[2] + " " + ends[3] + " out 20;kite b " + ends[6] + " " + ends[7] + " out 20;");
        q.walk(0, ends[0], ends[1]);
        q.walk(1, ends[4], ends[5]);
        return q;
    }

    private static void crossingOf(String what, String want, int... ends) {
        KiteQuarrel q = lines(ends);
        is(what, q.crosses(0, 1) ? q.crossing(0, 1, 0) + "," + q.crossing(0, 1, 1) : "none", want);
        is(what + ", the other way", q.crosses(1, 0), !want.equals("none"));
    }

    private static void strictly() {
        crossingOf("strictly, by 1 on each side", "45,50", 44, 50, 46, 50, 45, 49, 45, 51);
        crossingOf("a flyer on the other line", "none", 40, 50, 50, 50, 45, 50, 45, 60);
        crossingOf("a kite on the other line", "none", 40, 50, 50, 50, 45, 60, 45, 50);
        crossingOf("the first flyer on the second line", "none", 45, 50, 45, 60, 40, 50, 50, 50);
        crossingOf("the first kite on the second line", "none", 45, 60, 45, 50, 40, 50, 50, 50);
        crossingOf("just before the first flyer", "none", 40, 50, 50, 50, 39, 40, 39, 60);
        crossingOf("at the first flyer", "none", 40, 50, 50, 50, 40, 40, 40, 60);
        crossingOf("just behind the first flyer", "41,50", 40, 50, 50, 50, 41, 40, 41, 60);
        crossingOf("just before the first kite", "49,50", 40, 50, 50, 50, 49, 40, 49, 60);
        crossingOf("at the first kite", "none", 40, 50, 50, 50, 50, 40, 50, 60);
        crossingOf("just behind the first kite", "none", 40, 50, 50, 50, 51, 40, 51, 60);
        crossingOf("just before the second flyer", "none", 40, 50, 50, 50, 45, 51, 45, 60);
        crossingOf("just behind the second flyer", "45,50", 40, 50, 50, 50, 45, 49, 45, 60);
        crossingOf("just before the second kite", "45,50", 40, 50, 50, 50, 45, 40, 45, 51);
        crossingOf("just behind the second kite", "none", 40, 50, 50, 50, 45, 40, 45, 49);
        crossingOf("parallel", "none", 40, 50, 50, 50, 40, 51, 50, 51);
        crossingOf("the same line", "none", 40, 50, 50, 50, 40, 50, 50, 50);
        crossingOf("the same line against", "none", 40, 50, 50, 50, 50, 50, 40, 50);
        crossingOf("over one another", "none", 40, 50, 50, 50, 42, 50, 60, 50);
        // an end 1 aside of the other line, told by whole numbers: the parts are 1 and 69 of 70
        crossingOf("the first flyer hardly beyond", "50,50", 50, 50, 50, 60, 47, 48, 54, 53);
        crossingOf("the first kite hardly beyond", "50,50", 50, 60, 50, 50, 47, 48, 54, 53);
        crossingOf("the second flyer hardly beyond", "50,50", 47, 48, 54, 53, 50, 50, 50, 60);
        crossingOf("the second kite hardly beyond", "50,50", 47, 48, 54, 53, 50, 60, 50, 50);
        crossingOf("the first flyer hardly before", "none", 50, 51, 50, 60, 47, 48, 54, 53);
        crossingOf("the first kite hardly before", "none", 50, 60, 50, 51, 47, 48, 54, 53);
        crossingOf("ends that are one", "none", 40, 50, 50, 50, 50, 50, 50, 60);
    }

    /** The heights of the lines of kites 0 and 1 at their crossing: ann's from (40,50) to (50,50), bob's over x from y 40 to 60. */
    private static String heightsAt(int x, int annHeight, int annOut, int bobHeight, int bobOut) {
        KiteQuarrel q = launched(2, "kite ann 50 50 out " + annHeight + ";kite bob " + x + " 60 out " + bobHeight + ";");
        q.walk(0, 40, 50);
        q.walk(1, x, 40);
        q.pull(0, annOut);
        q.pull(1, bobOut);
        return all(q.crossing(0, 1, 2), q.crossing(0, 1, 3));
    }

    private static void heights() {
        says("With p and q as whole numbers such that the crossing is the part p/q of the way from the flyer to the kite, the height of a line there is its kite's height times p divided by q, "
            + "rounded down,", () -> {
            // the spans of 10, 0, 19 and of 0, 20, 19 are 21 and 27
            is("3 of 10 of 19, and half of 19", heightsAt(43, 19, 21, 19, 27), "5 9");
            is("9 of 10 of 19", heightsAt(49, 19, 21, 20, 28), "17 10");
            is("1 of 10 of 19", heightsAt(41, 19, 21, 20, 28), "1 10");
            is("1 of 10 of 9", heightsAt(41, 9, 13, 20, 28), "0 10");
            is("5 of 10 of 1", heightsAt(45, 1, 10, 1, 20), "0 0");
        });
        says("less half of its slack (rounded down) if that is above 0,", () -> {
            is("the slack 0", heightsAt(45, 20, 22, 20, 28), "10 10");
            is("the slack 1", heightsAt(45, 20, 23, 20, 29), "10 10");
            is("the slack 2", heightsAt(45, 20, 24, 20, 30), "9 9");
            is("the slack 3", heightsAt(45, 20, 25, 20, 31), "9 9");
            is("the slack 4", heightsAt(45, 20, 26, 20, 32), "8 8");
            is("the slack -1", heightsAt(45, 20, 21, 20, 27), "10 10");
            is("the slack -2 and -20", heightsAt(45, 20, 20, 20, 8), "10 10");
        });
        says("but at least 0.", () -> {
            is("1", heightsAt(45, 20, 40, 20, 46), "1 1");
            is("0", heightsAt(45, 20, 42, 20, 48), "0 0");
            is("below", heightsAt(45, 20, 44, 20, 50), "0 0");
            is("far below", heightsAt(45, 20, 400, 20, 400), "0 0");
        });
    }

    private static void rubbing() {
        says("Two lines rub if they cross, and their heights at the crossing differ by at most REACH.", () -> {
            // ann's line is at 6, bob's at 9
            is("REACH 3", crossed("", "", "reach 3;").rubs(0), 2);
            is("REACH 2", crossed("", "", "reach 2;").rubs(0), 0);
            KiteQuarrel above = crossed("", "", "reach 3;");
            above.pull(0, 22);
            above.pull(1, 34);
            is("ann's above bob's by 3", all(above.crossing(0, 1, 4), above.rubs(0), above.rubs(1)), "3 2 1");
            above.set(4, 2);
            is("and REACH 2", all(above.rubs(0), above.rubs(1)), "0 0");
            KiteQuarrel none = crossed("", "", "reach 0;");
            none.pull(0, 24);
            is("none, and REACH 0", all(none.crossing(0, 1, 4), none.rubs(0)), "0 2");
            none.pull(0, 26);
            is("1, and REACH 0", all(none.crossing(0, 1, 4), none.rubs(0)), "1 0");
            KiteQuarrel aside = crossed("", "", "reach 50;");
            aside.walk(0, 46, 50);
            is("they do not cross", all(aside.crosses(0, 1), aside.rubs(0), aside.rubs(1)), "false 0 0");
        });
    }

    private static void placesOfCrossings() {
        says("The place of a crossing is x and y of the flyer with the smaller kite number, each plus the difference to its kite times p divided by q,", () -> {
            // ann's line of 10 by 3 has half of its way at 48 and a half, bob's of 0 by 20 on a whole place below
            crossingOf("of ann, who goes up", "45,48", 40, 47, 50, 50, 45, 40, 45, 60);
            crossingOf("of bob, who goes down to it", "45,48", 45, 60, 45, 40, 40, 47, 50, 50);
            KiteQuarrel q = lines(45, 60, 45, 40, 40, 47, 50, 50);
            is("the smaller number, whichever is asked first", all(q.crossing(0, 1, 1), q.crossing(1, 0, 1)), "48 48");
        });
        says("rounded down (below 0 away from 0).", () -> {
            crossingOf("half of -3 of y", "45,48", 50, 50, 40, 47, 45, 40, 45, 60);
            crossingOf("half of -3 of x", "48,45", 50, 50, 47, 40, 40, 45, 60, 45);
            crossingOf("half of 3 of x", "48,45", 47, 40, 50, 50, 40, 45, 60, 45);
            crossingOf("just a whole number below 0", "45,48", 50, 50, 40, 46, 45, 40, 45, 60);
            // 45 + 3 * 8 / 9 is 47 and two thirds, from the other end it is 48 less one third
            crossingOf("2 thirds", "47,50", 45, 42, 48, 51, 40, 50, 60, 50);
            crossingOf("-1 third", "47,50", 48, 51, 45, 42, 40, 50, 60, 50);
        });
    }
}
