import java.util.List;
import java.util.function.Function;
import java.util.function.Supplier;

/** Checks, each of which stands below the sentence of the document that it holds. */
class Sentences extends Fields {
    private static final Document DOCUMENT = Document.read();
    private static String placeName = "";
    private static String sentence = "";
    private static int sentences = 0;
    private static int checks = 0;
    private static int wrong = 0;

    Sentences() {
    }

    /** From here on the sentences are those of a section or a promise. */
    static void place(String name) {
        placeName = name;
    }

    /** The words must stand so in the document; the checks hold them. */
    static void says(String words, Runnable held) {
        sentence = words;
        sentences++;
        if (!DOCUMENT.hold(placeName, words)) fault("does not stand in the document");
        int before = checks;
        try {
            held.run();
        } catch (RuntimeException e) {
            fault("threw " + e + " at " + e.getStackTrace()[0]);
        }
        if (checks == before) fault("has no check");
    }

    private static void fault(String what) {
        wrong++;
        System.out.println(placeName + " \"" + sentence + "\": " + what);
    }

    static void is(String what, Object got, Object want) {
        checks++;
        if (!String.valueOf(got).equals(String.valueOf(want))) fault(what + " answered " + got + ", due is " + want);
    }

    /** The call throws, and the object shows in every way what another one shows that did not get the call. */
    static void refused(String what, String exception, Supplier<KiteQuarrel> made, Function<KiteQuarrel, Object> call) {
        KiteQuarrel q = made.get();
        is(what, Checks.answerOf(() -> call.apply(q)), exception);
        is(what + ", and what it changes", differenceOf(everything(q), everything(made.get())), "nothing");
    }

    /** The call does not throw this exception. */
    static void taken(String what, String exception, Supplier<KiteQuarrel> made, Function<KiteQuarrel, Object> call) {
        KiteQuarrel q = made.get();
        is(what + ": refused", Checks.answerOf(() -> call.apply(q)).equals(exception), false);
    }

    private static String differenceOf(String got, String want) {
        return got.equals(want) ? "nothing" : got + " in place of " + want;
    }

    static void end(String name) {
        List<String> rest = DOCUMENT.notHeld();
        for (String clause : rest) {
            wrong++;
            System.out.println("no test holds " + clause);
        }
        System.out.println(name + ": " + checks + " checks of " + sentences + " quotes hold " + (DOCUMENT.size() - rest.size()) + " clauses of the document, " + wrong + " wrong");
        if (wrong != 0) System.exit(1);
    }
}
