/** Promises 34 to 42: forecasts, which alter nothing and go no further than the time 5000. */
public final class ForecastsTest {
    private static final int LEAST = Integer.MIN_VALUE, MOST = Integer.MAX_VALUE;

    private static void due(String what, Object want, Checks.Call call) {
        Checks.due(what, want, call);
    }

    /** Nothing moves; ann's line takes 3 wear a tick and bob's 2, so that bob's is cut in the second tick and ann's in the third if bob's still were there. */
    private static KiteQuarrel crossed() {
        KiteQuarrel q = Checks.field("kite ann 50 50 sharp 2 tough 9 out 30;kite bob 45 60 sharp 3 tough 4 out 30;kite cy 0 0;wind 0 0 0;slack 99;");
        q.launch(0);
        q.launch(1);
        q.walk(0, 40, 50);
        q.walk(1, 45, 40);
        return q;
    }

    /** Both lines are cut in the first tick. */
    private static KiteQuarrel bothCut() {
        KiteQuarrel q = crossed();
        q.reel(0, 1);
        q.reel(1, 2);
        q.set(4, 50);
        return q;
    }

    private static void late(KiteQuarrel q, int time) {
        while (q.count(2) + 200 <= time) q.run(200);
        if (q.count(2) < time) q.run(time - q.count(2));
    }

    private static void numbers() {
        KiteQuarrel q = crossed();
        String before = Checks.seen(q);
        due("wear of ann", "3 6 6 6", () -> q.kiteIn(0, 10, 1) + " " + q.kiteIn(0, 10, 2) + " " + q.kiteIn(0, 10, 3) + " " + q.kiteIn(0, 10, 100));
        due("states of bob", "0 2 2 4 4", () -> q.kiteIn(1, 0, 1) + " " + q.kiteIn(1, 0, 2) + " " + q.kiteIn(1, 0, 6) + " " + q.kiteIn(1, 0, 7) + " " + q.kiteIn(1, 0, 100));
        due("heights of bob", "20 20 16 4 0", () -> q.kiteIn(1, 3, 1) + " " + q.kiteIn(1, 3, 2) + " " + q.kiteIn(1, 3, 3) + " " + q.kiteIn(1, 3, 6) + " " + q.kiteIn(1, 3, 7));
        due("who cut and picked", "-1 0 -1 0", () -> q.kiteIn(1, 13, 1) + " " + q.kiteIn(1, 13, 2) + " " + q.kiteIn(1, 12, 6) + " " + q.kiteIn(1, 12, 7));
        due("points", "0 1 1 3", () -> q.kiteIn(0, 11, 1) + " " + q.kiteIn(0, 11, 2) + " " + q.kiteIn(0, 11, 6) + " " + q.kiteIn(0, 11, 7));
        due("nothing altered", before, () -> Checks.seen(q));
        for (int kite : new int[] {-1, 3, LEAST, MOST}) Checks.refused("kiteIn " + kite, q, Checks.INDEX, () -> q.kiteIn(kite, 14, 0));
        for (int what : new int[] {-1, 14, LEAST, MOST}) Checks.refused("kiteIn of " + what, q, Checks.ARGUMENT, () -> q.kiteIn(0, what, 1));
        for (int ticks : new int[] {-1, 0, 101, LEAST, MOST}) Checks.refused("kiteIn " + ticks, q, Checks.ARGUMENT, () -> q.kiteIn(0, 0, ticks));
    }

    private static void cutIn() {
        KiteQuarrel q = crossed();
        String before = Checks.seen(q);
        due("cutIn", "-1 2 2 -1 -1", () -> q.cutIn(1, 1) + " " + q.cutIn(1, 2) + " " + q.cutIn(1, 100) + " " + q.cutIn(0, 100) + " " + q.cutIn(2, 100));
        due("cutsIn", "0 1 1", () -> q.cutsIn(1) + " " + q.cutsIn(2) + " " + q.cutsIn(100));
        due("nothing altered", before, () -> Checks.seen(q));
        q.run(2);
        due("cutsIn counts those to come", 0, () -> q.cutsIn(100));
        due("cutIn of one that drifts", 0, () -> q.cutIn(1, 1));
        q.set(5, 0);
        q.run(5);
        due("cutIn of one that fell", "3 0", () -> q.kite(1, 0) + " " + q.cutIn(1, 1));
        q.set(5, 10);
        q.run(1);
        due("cutIn of one that was picked up", "4 0", () -> q.kite(1, 0) + " " + q.cutIn(1, 1));
        KiteQuarrel both = bothCut();
        due("both", "1 1 2", () -> both.cutIn(0, 1) + " " + both.cutIn(1, 1) + " " + both.cutsIn(1));
        for (int kite : new int[] {-1, 3, LEAST, MOST}) Checks.refused("cutIn " + kite, q, Checks.INDEX, () -> q.cutIn(kite, 0));
        for (int ticks : new int[] {-1, 0, 101, LEAST, MOST}) {
            Checks.refused("cutIn in " + ticks, q, Checks.ARGUMENT, () -> q.cutIn(1, ticks));
            Checks.refused("cutsIn " + ticks, q, Checks.ARGUMENT, () -> q.cutsIn(ticks));
        }
    }

    private static void crossIn() {
        // ann flies with the wind by 1 a tick over bob's line, which goes along x 45 and stays, as its kite is in no wind
        KiteQuarrel q = Checks.field("kite ann 40 50 out 11;kite bob 45 60 sharp 0 out 60;kite cy 0 0;wind 0 1 0;wind 12 0 0;slack 99;rise 0;");
        q.launch(0);
        q.launch(1);
        q.walk(1, 45, 40);
        q.pull(0, 99);
        String before = Checks.seen(q);
        due("above the crossing is no crossing", "-1 6 6", () -> q.crossIn(0, 1, 5) + " " + q.crossIn(0, 1, 6) + " " + q.crossIn(1, 0, 100));
        due("never", "-1 -1 -1", () -> q.crossIn(0, 2, 100) + " " + q.crossIn(0, 0, 100) + " " + q.crossIn(2, 1, 1));
        due("nothing altered", before, () -> Checks.seen(q));
        q.run(5);
        due("in the next tick", "1 false", () -> q.crossIn(0, 1, 1) + " " + q.crosses(0, 1));
        q.run(1);
        due("now", "0 true", () -> q.crossIn(0, 1, 1) + " " + q.crosses(0, 1));
        for (int kite : new int[] {-1, 3, LEAST, MOST}) {
            Checks.refused("crossIn " + kite, q, Checks.INDEX, () -> q.crossIn(kite, 0, 0));
            Checks.refused("crossIn of " + kite, q, Checks.INDEX, () -> q.crossIn(0, kite, 0));
        }
        for (int ticks : new int[] {-1, 0, 101, LEAST, MOST}) Checks.refused("crossIn in " + ticks, q, Checks.ARGUMENT, () -> q.crossIn(0, 1, ticks));
    }

    private static void landsIn() {
        KiteQuarrel q = crossed();
        String before = Checks.seen(q);
        due("lands", "-1 -1 7 7 0", () -> q.landsIn(0, 100) + " " + q.landsIn(1, 6) + " " + q.landsIn(1, 7) + " " + q.landsIn(1, 100) + " " + q.landsIn(2, 1));
        due("nothing altered", before, () -> Checks.seen(q));
        q.letGo(0);
        due("drifts, and falls", "5 -1", () -> q.landsIn(0, 5) + " " + q.landsIn(0, 4));
        q.run(5);
        due("fell or was picked up", "true 0", () -> (q.kite(0, 0) >= 3) + " " + q.landsIn(0, 1));
        KiteQuarrel slack = Checks.field("kite a 50 50 out 20;wind 0 0 0;slack 0;");
        slack.launch(0);
        slack.pull(0, 400);
        due("goes down", "5 -1 1", () -> slack.landsIn(0, 5) + " " + slack.landsIn(0, 4) + " " + slack.kiteIn(0, 0, 5));
        for (int kite : new int[] {-1, 3, LEAST, MOST}) Checks.refused("landsIn " + kite, q, Checks.INDEX, () -> q.landsIn(kite, 0));
        for (int ticks : new int[] {-1, 0, 101, LEAST, MOST}) Checks.refused("landsIn in " + ticks, q, Checks.ARGUMENT, () -> q.landsIn(1, ticks));
    }

    private static void duel() {
        KiteQuarrel q = crossed();
        String before = Checks.seen(q);
        due("bob is lost first", "1 1 -1 1 -1", () -> q.duel(0, 1, 2) + " " + q.duel(1, 0, 100) + " " + q.duel(0, 1, 1) + " " + q.duel(2, 1, 2) + " " + q.duel(1, 1, 100));
        due("none is lost", -1, () -> q.duel(0, 2, 100));
        due("nothing altered", before, () -> Checks.seen(q));
        q.run(2);
        due("lost now", "1 1", () -> q.duel(0, 1, 1) + " " + q.duel(1, 0, 1));
        q.letGo(0);
        due("both are lost now", -1, () -> q.duel(0, 1, 100));
        KiteQuarrel lost = Checks.field("kite a 50 50 out 4;kite b 50 99;kite c 99 50 out 4;kite d 99 51;wind 0 0 0;");
        lost.launch(0);
        lost.launch(2);
        lost.letGo(0);
        lost.letGo(2);
        lost.run(1);
        due("one fell, one was picked up", "3 4", () -> lost.kite(0, 0) + " " + lost.kite(2, 0));
        due("they are lost now", "0 0 2 2 -1", () -> lost.duel(0, 1, 9) + " " + lost.duel(3, 0, 9) + " " + lost.duel(2, 1, 9) + " " + lost.duel(3, 2, 9) + " " + lost.duel(0, 2, 9));
        KiteQuarrel both = bothCut();
        due("both at once", "-1 -1", () -> both.duel(0, 1, 100) + " " + both.duel(1, 0, 1));
        for (int kite : new int[] {-1, 3, LEAST, MOST}) {
            Checks.refused("duel " + kite, q, Checks.INDEX, () -> q.duel(kite, 0, 0));
            Checks.refused("duel with " + kite, q, Checks.INDEX, () -> q.duel(0, kite, 0));
        }
        for (int ticks : new int[] {-1, 0, 101, LEAST, MOST}) Checks.refused("duel in " + ticks, q, Checks.ARGUMENT, () -> q.duel(0, 1, ticks));
    }

    private static void reels() {
        KiteQuarrel q = crossed();
        q.set(2, 0);
        String before = Checks.seen(q);
        /* In the first tick ann's slack is 8 + r; the line is at 10 - (8 + r) / 2 over the crossing, bob's at 9. They rub if both
           differ by at most 3: up to r 1. Below r -8 the slack is -1: pulled in by 1 in height, 9 over the crossing: rubs too. */
        due("the safe reel", 2, () -> q.safeReel(0, 1));
        due("it is safe", "0 3", () -> {
            q.reel(0, 2);
            int safe = q.kiteIn(0, 10, 1);
            q.reel(0, 1);
            int worn = q.kiteIn(0, 10, 1);
            q.undo();
            q.undo();
            return safe + " " + worn;
        });
        due("the safe reel of one that is down", -9, () -> q.safeReel(2, 50));
        due("the bold reel cuts bob at once", -9, () -> q.boldReel(0, 1));
        due("the bold reel of one that is down", -9, () -> q.boldReel(2, 50));
        due("nothing altered", before, () -> Checks.seen(q));
        q.set(4, 0);
        /* Only r -6 and -5 (slack 2 or 3, 9 over the crossing) rub then, and r -9, which is pulled in by one. */
        due("the bold reel, pulled in", -9, () -> q.boldReel(0, 1));
        q.set(2, 9);
        // with CLIMB 9 ann is at 29 then, and is pulled in to 20 or so where the line is too short
        due("the reel of the model", modelBold(), () -> q.boldReel(0, 1));
        for (int kite : new int[] {-1, 3, LEAST, MOST}) {
            Checks.refused("safeReel " + kite, q, Checks.INDEX, () -> q.safeReel(kite, 0));
            Checks.refused("bestReel " + kite, q, Checks.INDEX, () -> q.bestReel(kite, 0));
            Checks.refused("boldReel " + kite, q, Checks.INDEX, () -> q.boldReel(kite, 0));
        }
        for (int ticks : new int[] {-1, 0, 51, 100, LEAST, MOST}) {
            Checks.refused("safeReel in " + ticks, q, Checks.ARGUMENT, () -> q.safeReel(0, ticks));
            Checks.refused("bestReel in " + ticks, q, Checks.ARGUMENT, () -> q.bestReel(0, ticks));
            Checks.refused("boldReel in " + ticks, q, Checks.ARGUMENT, () -> q.boldReel(0, ticks));
        }
        due("50 ticks are allowed", "2 true true", () -> 2 + " " + (q.safeReel(0, 50) >= -9) + " " + (q.bestReel(0, 50) >= -9));
    }

    /** What boldReel finds by trying each reel with the calls of the class itself. */
    private static int modelBold() {
        int best = 0, most = -1;
        for (int r = -9; r <= 9; r++) {
            KiteQuarrel q = crossed();
            q.set(2, 9);
            q.set(4, 0);
            q.reel(0, r);
            q.run(1);
            if (q.kite(0, 11) > most) {
                most = q.kite(0, 11);
                best = r;
            }
        }
        return best;
    }

    private static void bestReel() {
        // height 20 over the flyer, length out 20, no wind: a tick with CLIMB 3 lifts it to 23, but the line of 20 + r pulls it in
        KiteQuarrel q = Checks.field("kite a 50 50 out 20;wind 0 0 0;slack 5;climb 3;sink 4;rise 2;");
        q.launch(0);
        // r -1: 19; r 0 to 5: 20, as nothing lifts it; r 6 and more: sinks to 16
        due("highest behind one tick", 0, () -> q.bestReel(0, 1));
        q.setWind(0, 0, 1);
        // r from 1 on: moved by 1, lifted to 22 = the span of 0, 1, 22; r 2 and more are long enough
        due("highest behind one tick with wind", "2 22", () -> {
            int r = q.bestReel(0, 1);
            q.reel(0, r);
            int height = q.kiteIn(0, 3, 1);
            q.undo();
            return r + " " + height;
        });
        due("the smallest on a tie", "22 22 20", () -> {
            q.reel(0, 3);
            int three = q.kiteIn(0, 3, 1);
            q.reel(0, 5);
            int five = q.kiteIn(0, 3, 1);
            q.reel(0, 0);
            int none = q.kiteIn(0, 3, 1);
            return three + " " + five + " " + none;
        });
        // the force 9 by RISE 9 lifts it by 81 a tick, and the line pulls it in: to 9 aside and 28 high with 29 out, then to 18 and 34 with 38
        q.setWind(0, 0, 9);
        q.set(0, 99);
        q.set(1, 9);
        due("the greatest reel", "9 28 34", () -> q.bestReel(0, 1) + " " + heightWith(q, 9, 1) + " " + heightWith(q, 9, 2));
        due("behind just so many ticks", "9", () -> q.bestReel(0, 2));
        q.set(2, 0);
        q.letGo(0);
        due("one that drifts", -9, () -> q.bestReel(0, 9));
    }

    private static int heightWith(KiteQuarrel q, int reel, int ticks) {
        q.reel(0, reel);
        int height = q.kiteIn(0, 3, ticks);
        q.undo();
        return height;
    }

    /** The trials go on for just the ticks asked: with one more the best reel would be another one. */
    private static void justTheTicks() {
        KiteQuarrel q = Checks.field("kite a 50 50 out 28;wind 0 0 0;slack 5;sink 8;climb 0;");
        q.launch(0);
        // the slack is 8 + r behind the first tick: at most 5 up to r -3, and 20 + 8 + r is long enough from r -8 on
        due("one tick", "-8 20 20 20 12", () -> q.bestReel(0, 1) + " " + heightWith(q, -8, 1) + " " + heightWith(q, -4, 1) + " " + heightWith(q, -3, 1) + " " + heightWith(q, -2, 1));
        due("two ticks", "-4 18 20 20 4", () -> q.bestReel(0, 2) + " " + heightWith(q, -5, 2) + " " + heightWith(q, -4, 2) + " " + heightWith(q, -3, 2) + " " + heightWith(q, -2, 2));
    }

    private static void atTheEnd() {
        KiteQuarrel q = Checks.field("kite ann 50 50 sharp 2 tough 9 out 30;kite bob 45 60 sharp 3 tough 4 out 30;kite cy 0 0 out 20;wind 0 0 0;slack 99;");
        late(q, 4999);
        q.launch(0);
        q.launch(1);
        q.walk(0, 40, 50);
        q.walk(1, 45, 40);
        due("only one tick is left", "-1 0 3 3 -1 -1", () -> q.cutIn(1, 100) + " " + q.cutsIn(100) + " " + q.kiteIn(0, 10, 1) + " " + q.kiteIn(0, 10, 100) + " "
            + q.duel(0, 1, 100) + " " + q.landsIn(1, 100));
        q.reel(0, 2);
        q.set(4, 50);
        due("the cut of the last tick", "1 1 1", () -> q.cutIn(1, 100) + " " + q.cutsIn(100) + " " + q.duel(0, 1, 100));
        q.undo();
        q.undo();
        q.run(1);
        due("no tick is left", "5000 -1 0 3 -1 -1 0 -9 -9 -9", () -> q.count(2) + " " + q.cutIn(1, 100) + " " + q.cutsIn(100) + " " + q.kiteIn(0, 10, 100) + " "
            + q.duel(0, 1, 100) + " " + q.landsIn(1, 100) + " " + q.crossIn(0, 1, 100) + " " + q.safeReel(0, 50) + " " + q.bestReel(1, 50) + " " + q.boldReel(1, 50));
        Checks.refused("a tick beyond", q, Checks.STATE, () -> q.run(1));
        due("crosses never", -1, () -> q.crossIn(0, 2, 100));
        due("a reel is set all the same", "5 5", () -> {
            q.reel(0, 5);
            return q.kite(0, 7) + " " + q.kiteIn(0, 7, 9);
        });
    }

    public static void main(String[] args) {
        numbers();
        cutIn();
        crossIn();
        landsIn();
        duel();
        reels();
        bestReel();
        justTheTicks();
        atTheEnd();
        Checks.end("ForecastsTest");
    }
}
