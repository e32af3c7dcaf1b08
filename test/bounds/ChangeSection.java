import java.util.function.BiConsumer;
import java.util.function.Consumer;

/** Section 6: what a change is, what undo takes back, and forecasts as copies. */
final class ChangeSection extends Sentences {
    private ChangeSection() {
    }

    static void hold() {
        place("Section 6");
        says("Changes are the methods of the section \"Changes\" below, apart from undo, when they succeed (also if nothing is different then).", ChangeSection::whatIsAChange);
        says("The latest 10 changes can be undone;", ChangeSection::latestTen);
        says("the input buffer, the error, the output and the saved state stay as they are.", ChangeSection::whatStays);
        says("Forecasts are worked out on a copy, as if only ticks passed, at most to the time 5000 (what is asked of later ticks is as at 5000).", ChangeSection::forecasts);
    }

    /** Each change of the face once, on a field of five; none of them is refused. */
    private static void eachChange(BiConsumer<String, Consumer<KiteQuarrel>> each) {
        each.accept("run", q -> q.run(1));
        each.accept("launch", q -> q.launch(1));
        each.accept("reel", q -> q.reel(0, 5));
        each.accept("letGo", q -> q.letGo(0));
        each.accept("pull", q -> q.pull(0, 99));
        each.accept("walk", q -> q.walk(1, 0, 0));
        each.accept("restring", q -> q.restring(1, 9, 99));
        each.accept("setWind", q -> q.setWind(0, 5, -5));
        each.accept("set", q -> q.set(0, 1));
        each.accept("reel to the same", q -> q.reel(0, 0));
        each.accept("pull to the same", q -> q.pull(0, 30));
        each.accept("walk to the same", q -> q.walk(0, 10, 10));
        each.accept("setWind to the same", q -> q.setWind(0, 0, 0));
        each.accept("set to the same", q -> q.set(0, 99));
        each.accept("reel of one that fell", q -> q.reel(3, 1));
    }

    private static void whatIsAChange() {
        eachChange((what, change) -> {
            KiteQuarrel q = five();
            change.accept(q);
            is(what + " can be undone", q.count(12), 3);
            is(what + " undone", q.undo(), 2);
            is(what + " undone leaves what was", everything(q), everything(five()));
        });
        KiteQuarrel restrung = field("kite a 1 1 sharp 2 tough 3;");
        restrung.restring(0, 2, 3);
        is("restring to the same", restrung.count(12), 1);
        KiteQuarrel q = five();
        q.kite(0, 0);
        q.boldReel(0, 5);
        q.printEvents();
        q.saveState();
        is("no others", q.count(12), 2);
        q.undo();
        is("undo is none", q.count(12), 1);
        for (Checks.Call refused : new Checks.Call[] {() -> q.run(201), () -> q.launch(0), () -> q.reel(0, 10), () -> q.letGo(1), () -> q.pull(2, 5), () -> q.walk(0, 200, 0),
            () -> q.restring(0, 1, 1), () -> q.setWind(0, 10, 0), () -> q.set(3, 0)}) {
            Checks.answerOf(refused);
            is("a refused one is none", q.count(12), 1);
        }
    }

    private static void latestTen() {
        KiteQuarrel q = field("kite a 1 1;");
        for (int n = 1; n <= 9; n++) {
            q.pull(0, n);
            is("changes", q.count(12), n);
        }
        q.pull(0, 10);
        is("ten", q.count(12), 10);
        q.pull(0, 11);
        is("the eleventh", q.count(12), 10);
        for (int n = 12; n <= 25; n++) q.pull(0, n);
        for (int n = 1; n <= 10; n++) is("undo " + n, all(q.undo(), q.kite(0, 6), q.count(12)), all(10 - n, 25 - n, 10 - n));
        is("an eleventh undo", Checks.answerOf(q::undo), Checks.STATE);
        for (int n = 30; n <= 33; n++) q.pull(0, n);
        is("behind all undone", all(q.count(12), q.undo(), q.kite(0, 6), q.undo(), q.kite(0, 6)), "4 3 32 2 31");
        q.pull(0, 40);
        is("a change in place of those undone", all(q.count(12), q.undo(), q.kite(0, 6), q.undo(), q.kite(0, 6)), "3 2 31 1 30");
        is("to the first", all(q.undo(), q.kite(0, 6), q.count(12)), "0 15 0");
        eventsComeBack();
        KiteQuarrel mixed = bobIsCutInTwo();
        mixed.run(2);
        mixed.run(5);
        is("a cut, a picking up", all(states(mixed), mixed.count(9), mixed.sum(11), mixed.count(2), mixed.count(8)), "04 1 3 7 5");
        mixed.undo();
        is("undone to the cut", all(states(mixed), mixed.count(9), mixed.sum(11), mixed.count(2), mixed.count(8)), "02 1 1 2 3");
        mixed.undo();
        is("undone to the first", all(states(mixed), mixed.count(9), mixed.sum(11), mixed.count(2), mixed.count(8)), "00 0 0 0 2");
    }

    /** All parts of all events that are kept. */
    private static String shownEvents(KiteQuarrel q) {
        StringBuilder s = new StringBuilder();
        for (int e = 0; e < q.count(8); e++) s.append(event(q, e)).append(", ");
        return s.toString();
    }

    /** The events of cuts and falls come back, all parts of them, where a later change has put others in their places. */
    private static void eventsComeBack() {
        KiteQuarrel q = tenCrossed("pick 0;");
        q.reel(0, 2);
        q.run(3);
        String twelve = shownEvents(q);
        q.run(200);
        is("others", shownEvents(q).equals(twelve), false);
        q.undo();
        is("undone", shownEvents(q), twelve);
        q.saveState();
        q.run(200);
        q.restoreState();
        is("restored", shownEvents(q), twelve);
    }

    private static void whatStays() {
        KiteQuarrel q = field("kite a 1 1;kite b 2 2;");
        q.reel(0, 5);
        q.saveState();
        q.reel(0, 6);
        q.reel(0, 7);
        Checks.parse(q, "sink 99;");
        q.printKite(1);
        Checks.feed(q, "kite longer 5 6;");
        q.undo();
        is("the error", error(q), "2 5");
        is("the output", Checks.output(q), "b 2,2,0 down");
        is("the length of the buffer", Checks.bufferLength(q), 16);
        is("what is undone", q.kite(0, 7), 6);
        q.restoreState();
        is("the saved state", q.kite(0, 7), 5);
        is("the buffer", all(q.parse(), printed(q, 0)), "1 longer 5,6,0 down");
        KiteQuarrel earlier = field("kite a 1 1;");
        earlier.reel(0, 3);
        earlier.saveState();
        earlier.undo();
        is("a state saved behind the change that is undone", all(earlier.kite(0, 7), earlier.restoreState(), earlier.kite(0, 7)), "0 0 3");
    }

    private static void forecasts() {
        KiteQuarrel q = bobIsCutInTwo();
        q.saveState();
        Checks.parse(q, "sink 0;");
        q.printKite(0);
        Checks.feed(q, "kite a 1 1;");
        for (int n = 0; n < 3; n++) {
            q.kiteIn(0, 0, 100);
            q.cutIn(1, 100);
            q.crossIn(0, 1, 100);
            q.cutsIn(100);
            q.landsIn(1, 100);
            q.duel(0, 1, 100);
            q.safeReel(0, 50);
            q.bestReel(0, 50);
            q.boldReel(0, 50);
        }
        KiteQuarrel same = bobIsCutInTwo();
        same.saveState();
        Checks.parse(same, "sink 0;");
        same.printKite(0);
        Checks.feed(same, "kite a 1 1;");
        is("nothing is different behind them", everything(q), everything(same));
        KiteQuarrel ticks = bobIsCutInTwo();
        for (int n = 1; n <= 9; n++) {
            KiteQuarrel ran = bobIsCutInTwo();
            ran.run(n);
            StringBuilder forecast = new StringBuilder();
            for (int what = 0; what <= 13; what++) forecast.append(what > 0 ? " " : "").append(ticks.kiteIn(1, what, n));
            is("as if " + n + " ticks passed", forecast, numbers(ran, 1));
        }
        atTheEnd();
    }

    /** Lines that rub, at a late time; ann's wear is 3 behind each tick, bob's would be cut in the second one. */
    private static KiteQuarrel lateCrossed(int time) {
        KiteQuarrel q = late(time, "kite ann 50 50 sharp 2 tough 9 out 30;kite bob 45 60 sharp 3 tough 4 out 30;kite cy 0 0 out 9;wind 0 0 0;slack 99;");
        q.launch(0);
        q.launch(1);
        q.walk(0, 40, 50);
        q.walk(1, 45, 40);
        return q;
    }

    private static void atTheEnd() {
        KiteQuarrel two = lateCrossed(4998);
        is("two ticks are left", all(two.kiteIn(0, 10, 1), two.kiteIn(0, 10, 2), two.kiteIn(0, 10, 3), two.kiteIn(0, 10, 100)), "3 6 6 6");
        is("the cut of the last tick", all(two.cutIn(1, 1), two.cutIn(1, 2), two.cutIn(1, 100), two.cutsIn(1), two.cutsIn(2), two.cutsIn(100)), "-1 2 2 0 1 1");
        is("it never lands", all(two.landsIn(1, 100), two.duel(0, 1, 100), two.duel(0, 1, 1)), "-1 1 -1");
        KiteQuarrel one = lateCrossed(4999);
        is("one tick is left", all(one.kiteIn(0, 10, 1), one.kiteIn(0, 10, 2), one.kiteIn(0, 10, 100)), "3 3 3");
        is("no cut", all(one.cutIn(1, 100), one.cutsIn(100), one.duel(0, 1, 100), one.landsIn(1, 100)), "-1 0 -1 -1");
        KiteQuarrel none = lateCrossed(5000);
        is("no tick is left", all(none.kiteIn(0, 10, 1), none.kiteIn(0, 10, 100), none.cutIn(1, 100), none.cutsIn(100), none.duel(0, 1, 100), none.landsIn(1, 100)), "0 0 -1 0 -1 -1");
        is("what is now", all(none.crossIn(0, 1, 1), none.crossIn(0, 2, 100), none.landsIn(2, 100), none.kiteIn(0, 3, 50)), "0 -1 0 20");
        is("no reel is better than another", all(none.safeReel(0, 50), none.bestReel(0, 50), none.boldReel(0, 50)), "-9 -9 -9");
        none.letGo(1);
        is("lost now", all(none.duel(0, 1, 100), none.duel(1, 0, 1), none.cutIn(1, 1), none.landsIn(1, 100)), "1 1 0 -1");
        is("the safe and the bold reel behind the only tick", all(one.safeReel(0, 50), one.safeReel(0, 1), one.boldReel(0, 50), one.boldReel(0, 1)), "2 2 -9 -9");
        // behind one tick -8 is the best, behind two -4
        String text = "kite a 50 50 out 28;wind 0 0 0;slack 5;sink 8;climb 0;";
        for (int[] row : new int[][] {{0, 1, -8}, {0, 2, -4}, {4998, 1, -8}, {4998, 2, -4}, {4998, 50, -4}, {4999, 1, -8}, {4999, 2, -8}, {4999, 50, -8}, {5000, 1, -9}, {5000, 50, -9}}) {
            KiteQuarrel q = late(row[0], text);
            q.launch(0);
            is("the best reel from " + row[0] + " behind " + row[1], q.bestReel(0, row[1]), row[2]);
        }
    }
}
