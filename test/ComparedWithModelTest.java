import java.lang.reflect.InvocationTargetException;
import java.lang.reflect.Method;
import java.util.ArrayList;
import java.util.HashMap;
import java.util.List;
import java.util.Map;

/** Long runs of calls, chosen by a fixed sequence of numbers, on the class and on the model of the document. */
public final class ComparedWithModelTest {
    /** A call, what its arguments are, and how often it is chosen. */
    private static final String[] CALLS = {
        "count N 4", "setting N 1", "kite KN 6", "wind WN 2", "windAt H 2", "span K 3", "slack K 4", "crosses KK 5", "crossing KKN 6",
        "rubs K 6", "wearNow K 5", "event EN 6", "highest - 2", "tautest - 3", "leader - 3", "picker XYO 5", "gap KK 3", "nearest K 3",
        "upwind K 3", "threat K 5", "sum N 3", "rank K 3", "inBox XYXY 3", "spread - 2", "meanHeight - 2", "left K 4",
        "kiteIn KNT 4", "cutIn KT 5", "crossIn KKT 3", "cutsIn T 4", "landsIn KT 3", "duel KKT 4", "safeReel KS 2", "bestReel KS 2",
        "boldReel KS 3", "run R 28", "launch K 30", "reel KG 12", "letGo K 3", "pull KL 10", "walk KXY 14", "restring KDU 5",
        "setWind WPP 8", "set NV 6", "undo - 6", "printKite K 3", "printPairs - 4", "printEvents - 4", "outputByte I 6",
        "saveState - 2", "restoreState - 2", "feed BBBBB 1", "truncate J 2", "parse - 1", "find - 2", "errorCode - 1", "errorOffset - 1"
    };

    private static long seed = 1;
    private static int kites;
    private static int centre;
    private static int wide;
    private static int calls = 0;
    private static int wrong = 0;
    private static final Map<String, Integer> reached = new HashMap<>();

    private static int below(int bound) {
        seed = seed * 6364136223846793005L + 1442695040888963407L;
        return (int) ((seed >>> 33) % bound);
    }

    private static int from(int least, int most) {
        return least + below(most - least + 1);
    }

    private static boolean seldom(int one) {
        return below(one) == 0;
    }

    // ---- setup texts

    private static int near() {
        return Math.max(0, Math.min(199, centre + from(-wide, wide)));
    }

    private static String setupText() {
        StringBuilder text = new StringBuilder();
        centre = from(0, 199);
        wide = seldom(3) ? from(4, 40) : from(4, 15);
        int many = seldom(20) ? 11 : from(1, 10);
        List<String> statements = new ArrayList<>();
        for (int i = 0; i < many; i++) {
            StringBuilder kite = new StringBuilder("kite ").append(name(i)).append(' ').append(near()).append(' ').append(near());
            if (!seldom(4)) kite.append(" sharp ").append(from(0, 9));
            if (!seldom(4)) kite.append(" tough ").append(seldom(3) ? from(1, 99) : from(1, 25));
            if (!seldom(4)) kite.append(" out ").append(seldom(9) ? from(1, 400) : from(5, 60));
            statements.add(kite.toString());
        }
        int lowest = 0;
        for (int i = below(5); i > 0; i--) {
            statements.add("wind " + lowest + " " + speed() + " " + speed());
            lowest += from(1, 25);
        }
        for (int what = 0; what < 6; what++) {
            if (seldom(2) || what == 4) {
                int most = seldom(3) || what == 4 ? Model.MOST[what] : Math.min(Model.MOST[what], 2 * Model.FIRST[what] + 3);
                statements.add(Model.SETTINGS[what] + " " + from(Model.LEAST[what], most));
            }
        }
        for (String s : statements) text.append(s).append(seldom(5) ? " ;\n" : ";");
        return text.substring(0, Math.min(700, text.length()));
    }

    private static String name(int i) {
        return new String[] {"a", "b", "cc", "d", "eve", "f", "g", "hanna", "iiiiii", "j", "k"}[i];
    }

    private static String speed() {
        return seldom(2) ? "-" + below(10) : "" + below(10);
    }

    /** A text with a small fault here or there, or none. */
    private static String spoilt(String text) {
        String[] statements = text.split(";");
        if (seldom(4)) text = text + statements[below(statements.length)] + ";";
        if (seldom(4)) text = text + "wind " + below(300) + " 1 - 1; sink 9;";
        String[] pieces = {"", ";", " ", "-", "kite", "wind", "sharp ", "tough ", "out ", "slack ", "12345", "200", "10", "0", "a", "zzzzzzz", "A", "\t", "\u00e9", "sink ", "pick 3;",
            "400", "401", "99", "100", "9", "20", "21", "51", "300", "301", "0005", "00005", "kite a 1 1;", "\n"};
        int times = below(3);
        for (int n = 0; n < times; n++) {
            int at = below(text.length() + 1);
            int to = Math.min(text.length(), at + (seldom(2) ? 0 : below(6)));
            text = text.substring(0, at) + pieces[below(pieces.length)] + text.substring(to);
        }
        return text.substring(0, Math.min(700, text.length()));
    }

    // ---- calls

    private static int argument(char kind) {
        boolean wild = seldom(25);
        if (wild && seldom(3)) return new int[] {Integer.MIN_VALUE, Integer.MAX_VALUE, -1, 1000, 700, 701}[below(6)];
        switch (kind) {
            case 'K': return wild ? from(-1, 11) : below(Math.max(1, kites));
            case 'N': return wild ? from(-2, 15) : below(14);
            case 'W': return wild ? from(-1, 5) : below(3);
            case 'H': return wild ? from(-1, 301) : below(80);
            case 'E': return wild ? from(-1, 14) : below(12);
            case 'X': case 'Y': return wild ? from(-1, 200) : near();
            case 'O': return from(-1, kites - 1) + (wild ? 1 : 0);
            case 'T': return wild ? from(-1, 102) : seldom(8) ? 100 : from(1, 15);
            case 'S': return wild ? from(-1, 52) : seldom(8) ? 50 : from(1, 12);
            case 'R': return wild ? from(-1, 202) : seldom(9) ? from(1, 200) : from(1, 6);
            case 'G': return wild ? from(-11, 11) : from(-9, 9);
            case 'L': return wild ? from(-1, 402) : from(1, 70);
            case 'D': return wild ? from(-1, 11) : from(0, 9);
            case 'U': return wild ? from(-1, 101) : from(1, 40);
            case 'P': return wild ? from(-11, 11) : from(-9, 9);
            case 'V': return wild ? from(-1, 101) : from(0, 20);
            case 'I': return from(-1, 60);
            case 'J': return from(-1, 60);
            default: return seed < 0 ? below(1 << 30) : -below(1 << 30);
        }
    }

    private static Object answer(Object on, Method method, Object[] arguments) {
        try {
            return method.invoke(on, arguments);
        } catch (InvocationTargetException e) {
            reached.merge(e.getCause().getClass().getSimpleName(), 1, Integer::sum);
            return e.getCause().getClass().getSimpleName();
        } catch (IllegalAccessException e) {
            throw new IllegalStateException(e);
        }
    }

    private static boolean same(KiteQuarrel q, Model m, String name, int... numbers) throws NoSuchMethodException {
        Class<?>[] types = new Class<?>[numbers.length];
        Object[] arguments = new Object[numbers.length];
        for (int i = 0; i < numbers.length; i++) {
            types[i] = int.class;
            arguments[i] = numbers[i];
        }
        calls++;
        Object due = answer(m, Model.class.getMethod(name, types), arguments);
        Object got = answer(q, KiteQuarrel.class.getMethod(name, types), arguments);
        if (got.equals(due)) {
            return true;
        }
        wrong++;
        System.out.println(name + java.util.Arrays.toString(numbers) + " answered " + got + ", the model " + due);
        return false;
    }

    private static boolean feedBoth(KiteQuarrel q, Model m, String text) throws NoSuchMethodException {
        boolean good = true;
        for (int at = 0; at < text.length(); at += 20) {
            int[] five = new int[5];
            for (int i = 0; i < 20; i++) five[i / 4] = five[i / 4] << 8 | (at + i < text.length() ? text.charAt(at + i) : 0);
            good &= same(q, m, "feed", five);
        }
        return good && same(q, m, "truncate", text.length());
    }

    private static boolean sameSight(KiteQuarrel q, Model m) throws NoSuchMethodException {
        boolean good = true;
        for (int what = 0; what <= 12; what++) good &= same(q, m, "count", what);
        for (int what = 0; what <= 5; what++) good &= same(q, m, "setting", what);
        for (int kite = 0; kite < kites; kite++) {
            for (int what = 0; what <= 13; what++) good &= same(q, m, "kite", kite, what);
        }
        for (int event = 0; event < q.count(8); event++) {
            for (int what = 0; what <= 5; what++) good &= same(q, m, "event", event, what);
        }
        for (int wind = 0; wind < q.count(1); wind++) {
            for (int what = 0; what <= 3; what++) good &= same(q, m, "wind", wind, what);
        }
        return good && same(q, m, "errorCode") && same(q, m, "errorOffset");
    }

    private static boolean sameOutput(KiteQuarrel q, Model m) throws NoSuchMethodException {
        boolean good = true;
        for (int i = 0; good && (i == 0 || q.outputByte(i - 1) != -1); i++) good = same(q, m, "outputByte", i);
        return good;
    }

    private static boolean oneCall(KiteQuarrel q, Model m, List<String[]> often) throws NoSuchMethodException {
        String[] call = often.get(below(often.size()));
        int[] numbers = new int[call[1].equals("-") ? 0 : call[1].length()];
        for (int i = 0; i < numbers.length; i++) numbers[i] = argument(call[1].charAt(i));
        if (call[0].equals("find") && !seldom(4)) {
            same(q, m, "truncate", 0);
            if (!feedBoth(q, m, name(below(11)))) return false;
        }
        boolean good = same(q, m, call[0], numbers);
        if (call[0].startsWith("print")) good &= sameOutput(q, m);
        if (call[0].equals("parse")) kites = q.count(0);
        if (call[0].equals("run") && q.count(10) > 0) reached.merge("runs that end in a crossing", 1, Integer::sum);
        return good;
    }

    private static boolean oneObject(List<String[]> often) throws NoSuchMethodException {
        KiteQuarrel q = new KiteQuarrel();
        Model m = new Model();
        boolean good = true;
        for (int texts = from(2, 9); good && texts > 0; texts--) {
            String text = seldom(2) ? spoilt(setupText()) : setupText();
            good = feedBoth(q, m, text) && same(q, m, "parse");
            if (q.errorCode() != 0) reached.merge("error " + q.errorCode(), 1, Integer::sum);
            kites = q.count(0);
            for (int kite = 0; good && kite < kites; kite++) {
                if (!seldom(5)) good = same(q, m, "launch", kite);
                if (!seldom(3)) good &= same(q, m, "reel", kite, from(-2, 9));
            }
            if (good) good = same(q, m, "run", from(1, 4));
            for (int kite = 0; good && kite < kites; kite++) {
                if (seldom(2)) good = same(q, m, "walk", kite, near(), near());
            }
            if (kites == 0) continue;
            for (int n = from(20, 200); good && n > 0; n--) {
                good = oneCall(q, m, often);
                if (good && seldom(10)) good = sameSight(q, m);
            }
            good = good && sameSight(q, m);
            for (int e = 0; e < q.count(8); e++) reached.merge("event kind " + q.event(e, 1), 1, Integer::sum);
        }
        return good;
    }

    public static void main(String[] args) throws NoSuchMethodException {
        List<String[]> often = new ArrayList<>();
        for (String call : CALLS) {
            String[] parts = call.split(" ");
            for (int n = Integer.parseInt(parts[2]); n > 0; n--) often.add(parts);
        }
        int objects = args.length > 0 ? Integer.parseInt(args[0]) : 300;
        for (int n = 1; n <= objects && wrong == 0; n++) {
            seed = n * 7919L;
            if (!oneObject(often)) System.out.println("in the run of object " + n);
        }
        System.out.println("ComparedWithModelTest: " + calls + " calls, " + wrong + " wrong; reached " + new java.util.TreeMap<>(reached));
        if (wrong != 0) System.exit(1);
    }
}
