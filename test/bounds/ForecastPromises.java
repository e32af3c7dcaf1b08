/** Promises 34 to 42: forecasts. (That they go to the time 5000 stands in ChangeSection, what they refuse in Refusals.) */
final class ForecastPromises extends Sentences {
    private ForecastPromises() {
    }

    static void hold() {
        kiteIn();
        cutIn();
        crossIn();
        cutsIn();
        landsIn();
        duel();
        safeReel();
        bestReel();
        boldReel();
    }

    /**
     * Ann's kite goes by 1 a tick from x 50 on, and is over bob's line, which goes along an x, when it has left that x behind; bob
     * is in no wind, and neither line is cut but by the sharpness that is told.
     */
    private static KiteQuarrel comesOver(int x, String ann, String bob) {
        KiteQuarrel q = launched(2, "kite ann 50 50 " + ann + " out 11;kite bob " + x + " 60 " + bob + " out 30;kite cy 0 0;wind 0 1 0;wind 12 0 0;slack 99;rise 0;reach 50;");
        q.walk(0, 40, 50);
        q.pull(0, 110);
        q.walk(1, x, 40);
        return q;
    }

    /** A kite of the height told drifts; SINK is 1. */
    private static KiteQuarrel driftsAt(int height) {
        KiteQuarrel q = high(50, 50, "kite b 50 50;");
        q.letGo(0);
        q.set(3, 20);
        q.run(9);
        q.set(3, 1);
        if (height < 110) q.run(110 - height);
        return q;
    }

    private static void kiteIn() {
        place("Promise 34");
        says("Forecasts a number of a kite.", () -> is("x", all(comesOver(99, "", "").kiteIn(0, 1, 1), comesOver(99, "", "").kiteIn(0, 1, 2)), "51 52"));
        says("- `what`: as for kite", () -> {
            for (int kite = 0; kite < 5; kite++) {
                KiteQuarrel q = five();
                StringBuilder forecast = new StringBuilder();
                for (int what = 0; what <= 13; what++) forecast.append(what > 0 ? " " : "").append(q.kiteIn(kite, what, 3));
                q.run(3);
                is("all of the kite " + kite, forecast, numbers(q, kite));
            }
        });
        says("Returns the number behind so many ticks.", () -> {
            KiteQuarrel q = comesOver(199, "", "");
            for (int ticks : new int[] {1, 2, 99, 100}) is("behind " + ticks, q.kiteIn(0, 1, ticks), 50 + ticks);
            q.run(100);
            is("as they pass", q.kite(0, 1), 150);
        });
    }

    private static void cutIn() {
        place("Promise 35");
        says("Forecasts when the line of a kite is cut.", () -> is("in the second tick", bobIsCutInTwo().cutIn(1, 2), 2));
        says("Returns the number of ticks, that tick included;", () -> {
            is("in the first tick", all(crossed("sharp 1", "tough 1", "").cutIn(1, 1), crossed("sharp 1", "tough 1", "").cutIn(1, 100)), "1 1");
            is("in the second", all(bobIsCutInTwo().cutIn(1, 2), bobIsCutInTwo().cutIn(1, 3), bobIsCutInTwo().cutIn(1, 100)), "2 2 2");
            is("in the 99th", all(crossed("sharp 1 tough 99", "sharp 0 tough 99", "").cutIn(1, 98), crossed("sharp 1 tough 99", "sharp 0 tough 99", "").cutIn(1, 99)), "-1 99");
            // they rub from the second tick on
            is("in the 100th", all(comesOver(51, "sharp 1", "sharp 0 tough 99").cutIn(1, 99), comesOver(51, "sharp 1", "sharp 0 tough 99").cutIn(1, 100)), "-1 100");
            is("both in one tick", all(bothCut().cutIn(0, 1), bothCut().cutIn(1, 1)), "1 1");
        });
        says("0 if it neither flies nor is down;", () -> is("of each state", all(five().cutIn(0, 1), five().cutIn(1, 1), five().cutIn(2, 1), five().cutIn(3, 1), five().cutIn(4, 1)), "-1 -1 0 0 0"));
        says("NONE if it is not cut in these ticks (one that is down is not launched by ticks).", () -> {
            is("one tick less", bobIsCutInTwo().cutIn(1, 1), -1);
            is("in the 101st", comesOver(52, "sharp 1", "sharp 0 tough 99").cutIn(1, 100), -1);
            is("one that is not cut", bobIsCutInTwo().cutIn(0, 100), -1);
            is("one that is down", all(five().cutIn(1, 100), field("kite a 1 1;").cutIn(0, 1)), "-1 -1");
            KiteQuarrel q = bobIsCutInTwo();
            q.set(0, 7);
            q.set(3, 20);
            q.pull(1, 40);
            is("one that goes down before", all(q.kiteIn(1, 0, 1), q.cutIn(1, 100)), "1 -1");
            KiteQuarrel drifts = bobIsCutInTwo();
            drifts.letGo(1);
            is("one that was let go", drifts.cutIn(1, 100), 0);
        });
    }

    /** Both lines are cut in the first tick. */
    private static KiteQuarrel bothCut() {
        return crossed("sharp 3 tough 3", "sharp 3 tough 3", "");
    }

    private static void crossIn() {
        place("Promise 36");
        says("Forecasts when the lines of two kites cross.", () -> is("either way", all(comesOver(55, "", "").crossIn(0, 1, 9), comesOver(55, "", "").crossIn(1, 0, 9)), "6 6"));
        says("Returns the number of ticks behind which they first cross, 0 if they do now;", () -> {
            is("now", all(crossed("", "", "").crossIn(0, 1, 1), crossed("", "", "").crossIn(1, 0, 100)), "0 0");
            is("behind the first", all(comesOver(50, "", "").crossIn(0, 1, 1), comesOver(50, "", "").crossIn(0, 1, 100)), "1 1");
            is("an end on the line is not yet", all(comesOver(51, "", "").crossIn(0, 1, 1), comesOver(51, "", "").crossIn(0, 1, 2)), "-1 2");
            is("behind the 100th", all(comesOver(149, "sharp 0", "sharp 0").crossIn(0, 1, 99), comesOver(149, "sharp 0", "sharp 0").crossIn(0, 1, 100)), "-1 100");
            KiteQuarrel apart = comesOver(55, "", "");
            apart.set(4, 0);
            is("they need not rub", all(apart.crossIn(0, 1, 100), crossed("", "", "reach 2;").crossIn(0, 1, 1)), "6 0");
            KiteQuarrel once = crossed("sharp 1", "tough 1", "");
            is("now, and never again", once.crossIn(0, 1, 5), 0);
        });
        says("NONE if they do not in these ticks.", () -> {
            is("behind the 101st", comesOver(150, "sharp 0", "sharp 0").crossIn(0, 1, 100), -1);
            is("a line and itself", all(crossed("", "", "").crossIn(0, 0, 100), comesOver(55, "", "").crossIn(1, 1, 100)), "-1 -1");
            is("one that is down", comesOver(55, "", "").crossIn(0, 2, 100), -1);
            KiteQuarrel drifts = crossed("", "", "");
            drifts.letGo(0);
            is("one that drifts", drifts.crossIn(0, 1, 100), -1);
        });
    }

    private static void cutsIn() {
        place("Promise 37");
        says("Forecasts cuts.", () -> is("one", bobIsCutInTwo().cutsIn(100), 1));
        says("Returns how many lines are cut in these ticks.", () -> {
            is("around the tick of the cut", all(bobIsCutInTwo().cutsIn(1), bobIsCutInTwo().cutsIn(2), bobIsCutInTwo().cutsIn(3)), "0 1 1");
            is("two in one tick", bothCut().cutsIn(1), 2);
            is("ten in the third tick", all(tenCrossed("").cutsIn(2), tenCrossed("").cutsIn(3), tenCrossed("").cutsIn(100)), "0 10 10");
            is("in the 100th tick and the 101st", all(comesOver(51, "sharp 1", "sharp 0 tough 99").cutsIn(100), comesOver(52, "sharp 1", "sharp 0 tough 99").cutsIn(100)), "1 0");
            KiteQuarrel q = bobIsCutInTwo();
            q.run(2);
            is("not those before", all(q.count(9), q.cutsIn(1), q.cutsIn(100)), "1 0 0");
            is("of no kite", all(new KiteQuarrel().cutsIn(1), new KiteQuarrel().cutsIn(100), five().cutsIn(100)), "0 0 0");
        });
    }

    private static void landsIn() {
        place("Promise 38");
        says("Forecasts when a kite comes to the ground.", () -> is("bob is cut in the second tick and falls in the seventh", bobIsCutInTwo().landsIn(1, 100), 7));
        says("Returns the number of ticks behind which it first neither flies nor drifts, 0 if it does neither now;", () -> {
            is("of each state", all(five().landsIn(0, 1), five().landsIn(1, 1), five().landsIn(2, 100), five().landsIn(3, 1), five().landsIn(4, 1)), "-1 0 4 0 0");
            is("around the tick", all(bobIsCutInTwo().landsIn(1, 6), bobIsCutInTwo().landsIn(1, 7), bobIsCutInTwo().landsIn(1, 8)), "-1 7 7");
            KiteQuarrel down = launched(1, "kite a 50 50 out 5;wind 0 0 0;slack 0;sink 4;");
            down.pull(0, 99);
            is("one that goes down", all(down.landsIn(0, 1), down.landsIn(0, 2), down.landsIn(0, 100)), "-1 2 2");
            is("behind the 100th", all(driftsAt(100).kite(0, 3), driftsAt(100).landsIn(0, 99), driftsAt(100).landsIn(0, 100)), "100 -1 100");
            is("behind the first", driftsAt(1).landsIn(0, 1), 1);
        });
        says("NONE if it is not so in these ticks.", () -> {
            is("behind the 101st", all(driftsAt(101).kite(0, 3), driftsAt(101).landsIn(0, 100)), "101 -1");
            is("one that stays", bobIsCutInTwo().landsIn(0, 100), -1);
        });
    }

    private static void duel() {
        place("Promise 39");
        says("Forecasts which of two kites is lost first: it drifts, fell or was picked up.", () -> {
            KiteQuarrel q = five();
            is("each state against one that flies", all(q.duel(0, 1, 1), q.duel(0, 2, 1), q.duel(0, 3, 1), q.duel(0, 4, 1)), "-1 2 3 4");
            is("each state against one that is down", all(q.duel(1, 0, 1), q.duel(1, 2, 1), q.duel(3, 1, 1), q.duel(1, 4, 1)), "-1 2 3 4");
        });
        says("Returns the number of the one that is lost first (perhaps now) while the other one is not;", () -> {
            is("either way", all(bobIsCutInTwo().duel(0, 1, 2), bobIsCutInTwo().duel(1, 0, 2), bobIsCutInTwo().duel(1, 0, 100)), "1 1 1");
            is("against one that is down", all(duelist().duel(1, 2, 100), duelist().duel(2, 1, 2)), "1 1");
            KiteQuarrel now = bobIsCutInTwo();
            now.letGo(0);
            is("now", all(now.duel(0, 1, 1), now.duel(1, 0, 100)), "0 0");
            // ann is lost in the second tick, bob in the first one
            KiteQuarrel q = crossed("sharp 3 tough 6", "sharp 3 tough 3", "");
            is("the later one does not count", q.duel(0, 1, 100), 1);
            is("in the 100th tick", all(comesOver(51, "sharp 1", "sharp 0 tough 99").duel(0, 1, 99), comesOver(51, "sharp 1", "sharp 0 tough 99").duel(0, 1, 100)), "-1 1");
        });
        says("NONE if both are lost at the same time, or none in these ticks.", () -> {
            is("both in the first tick", all(bothCut().duel(0, 1, 1), bothCut().duel(1, 0, 100)), "-1 -1");
            is("one tick less", bobIsCutInTwo().duel(0, 1, 1), -1);
            is("one that goes down is not lost", goesDown().duel(0, 1, 100), -1);
            is("the same kite", all(bobIsCutInTwo().duel(1, 1, 100), five().duel(3, 3, 1), five().duel(0, 0, 100)), "-1 -1 -1");
            is("both are lost now", all(five().duel(2, 3, 100), five().duel(3, 2, 1), five().duel(4, 2, 100), five().duel(3, 4, 100)), "-1 -1 -1 -1");
            is("in the 101st tick", comesOver(52, "sharp 1", "sharp 0 tough 99").duel(0, 1, 100), -1);
        });
    }

    private static KiteQuarrel duelist() {
        return crossed("sharp 2 tough 9", "sharp 3 tough 4", "kite cy 0 0;");
    }

    private static KiteQuarrel goesDown() {
        KiteQuarrel q = launched(2, "kite a 50 50 out 20;kite b 100 100 out 20;wind 0 0 0;slack 0;");
        q.pull(0, 50);
        return q;
    }

    /** The reel of the greatest worth, found by setting each one, looking ahead, and undoing it. */
    private static int bestByCalls(KiteQuarrel q, int kite, int what, int sign, int ticks) {
        int best = 0, most = 0;
        for (int reel = -9; reel <= 9; reel++) {
            q.reel(kite, reel);
            int worth = sign * q.kiteIn(kite, what, ticks);
            q.undo();
            if (reel == -9 || worth > most) {
                most = worth;
                best = reel;
            }
        }
        return best;
    }

    /** Ann's line of 31 is at 10 less half of 9 and the reel over bob's, which is at 9. */
    private static KiteQuarrel reelers(int reach) {
        KiteQuarrel q = crossed("sharp 2 tough 99", "sharp 3 tough 99", "kite cy 0 0;climb 0;reach " + reach + ";");
        q.pull(0, 31);
        return q;
    }

    private static void safeReel() {
        place("Promise 40");
        says("Finds the reel with which the line of a kite has the least wear behind some ticks, whether it was cut then or not, if it was set now.", () -> {
            for (int ticks : new int[] {1, 2, 3, 10, 50}) {
                KiteQuarrel q = reelers(2);
                is("as by setting each one, " + ticks, all(q.safeReel(0, ticks), q.safeReel(1, ticks)), all(bestByCalls(q, 0, 10, -1, ticks), bestByCalls(q, 1, 10, -1, ticks)));
            }
            // the reel -4 brings 10 wear, which cuts bob in the first tick; those next to 0 leave bob to bring wear in the second one too
            KiteQuarrel cuts = crossed("sharp 2 tough 99", "sharp 3 tough 10", "climb 0;reach 50;");
            is("a line that cuts the other one is worn less", all(cuts.safeReel(0, 1), cuts.safeReel(0, 2)), "-9 -9");
            // ann's line is cut in the first tick with every reel that rubs: 0 to 9 do not, with REACH 2
            is("whether it was cut or not", all(crossed("sharp 2 tough 3", "sharp 3 tough 99", "climb 0;reach 2;").safeReel(0, 5),
                crossed("sharp 2 tough 3", "sharp 3 tough 99", "climb 0;reach 50;").safeReel(0, 5)), "0 -9");
            KiteQuarrel set = reelers(7);
            set.reel(0, 9);
            is("whatever the reel is now", all(set.safeReel(0, 1), set.kite(0, 7)), "9 9");
        });
        says("Returns the reel, -9 to 9, the smallest one on a tie.", () -> {
            is("9 alone does not rub", reelers(7).safeReel(0, 1), 9);
            is("7, 8 and 9 do not rub", reelers(6).safeReel(0, 1), 7);
            is("all rub", reelers(50).safeReel(0, 1), -9);
            is("none is in the way", all(reelers(50).safeReel(2, 50), five().safeReel(0, 50), five().safeReel(1, 1), five().safeReel(2, 1), five().safeReel(3, 1), five().safeReel(4, 1)), "-9 -9 -9 -9 -9 -9");
        });
    }

    private static void bestReel() {
        place("Promise 41");
        says("Finds the reel with which a kite is highest behind some ticks, if it was set now.", () -> {
            for (int ticks : new int[] {1, 2, 3, 10, 50}) {
                KiteQuarrel q = launched(1, "kite a 50 50 out 24;wind 0 2 1;wind 40 -3 4;climb 2;sink 3;");
                is("as by setting each one, " + ticks, q.bestReel(0, ticks), bestByCalls(q, 0, 3, 1, ticks));
            }
            // the slack 8 and the reel: at most 5 up to -3, so that it stays at 20; from -8 on the line is long enough
            KiteQuarrel q = launched(1, "kite a 50 50 out 28;wind 0 0 0;slack 5;sink 8;climb 0;");
            is("behind one tick and behind two", all(q.bestReel(0, 1), q.bestReel(0, 2)), "-8 -4");
            q.reel(0, 5);
            is("whatever the reel is now", all(q.bestReel(0, 1), q.kite(0, 7)), "-8 5");
        });
        says("Returns the reel, -9 to 9, the smallest one on a tie.", () -> {
            KiteQuarrel lift = launched(1, "kite a 50 50 out 20;wind 0 0 9;slack 99;rise 9;");
            is("the longest line is the highest", all(lift.bestReel(0, 1), lift.bestReel(0, 2)), "9 9");
            KiteQuarrel ties = launched(1, "kite a 50 50 out 20;wind 0 0 0;slack 5;climb 0;");
            is("0 to 5 are as good, below it is pulled in", ties.bestReel(0, 1), 0);
            KiteQuarrel climbs = launched(1, "kite a 50 50 out 60;wind 0 0 0;slack 99;climb 3;");
            is("all below 0 lift it", climbs.bestReel(0, 1), -9);
            is("of each state but the first", all(five().bestReel(1, 50), five().bestReel(2, 50), five().bestReel(3, 50), five().bestReel(4, 50)), "-9 -9 -9 -9");
        });
    }

    private static void boldReel() {
        place("Promise 42");
        says("Finds the reel with which the flyer of a kite has the most points behind some ticks, if it was set now.", () -> {
            for (int ticks : new int[] {1, 2, 3, 10, 50}) {
                KiteQuarrel q = crossed("sharp 2 tough 99", "sharp 1 tough 18", "climb 0;reach 2;");
                is("as by setting each one, " + ticks, all(q.boldReel(0, ticks), q.boldReel(1, ticks)), all(bestByCalls(q, 0, 11, 1, ticks), bestByCalls(q, 1, 11, 1, ticks)));
            }
            KiteQuarrel picks = launched(1, "kite a 50 50 out 4;kite b 51 51;wind 0 0 0;");
            picks.letGo(0);
            is("points for a kite picked up, with every reel", picks.boldReel(1, 5), -9);
            KiteQuarrel set = onlyNine();
            set.reel(0, -3);
            is("whatever the reel is now", all(set.boldReel(0, 1), set.kite(0, 7)), "9 -3");
        });
        says("Returns the reel, -9 to 9, the smallest one on a tie.", () -> {
            is("9 alone cuts", onlyNine().boldReel(0, 1), 9);
            is("8 and 9 cut a weaker line", onlyEight().boldReel(0, 1), 8);
            is("each cuts", crossed("sharp 1", "tough 1", "reach 50;").boldReel(0, 1), -9);
            is("none cuts", all(crossed("sharp 0", "", "").boldReel(0, 50), five().boldReel(0, 50), five().boldReel(1, 1), five().boldReel(2, 1), five().boldReel(3, 1), five().boldReel(4, 1)), "-9 -9 -9 -9 -9 -9");
        });
    }

    /** Bob's line is on the ground; ann's is within REACH of it with the reels 8 and 9 alone, and brings 18 and 20. */
    private static KiteQuarrel boldly(int tough) {
        KiteQuarrel q = crossed("sharp 2 tough 99", "sharp 0 tough " + tough, "kite cy 0 0;climb 0;reach 2;");
        q.pull(1, 60);
        return q;
    }

    private static KiteQuarrel onlyNine() {
        return boldly(20);
    }

    private static KiteQuarrel onlyEight() {
        return boldly(18);
    }
}
