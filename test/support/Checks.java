/** What the tests share: texts for the input buffer, comparisons, and all that can be seen of a field. */
final class Checks {
    static final String INDEX = "IndexOutOfBoundsException";
    static final String ARGUMENT = "IllegalArgumentException";
    static final String STATE = "IllegalStateException";

    private static int wrong = 0;
    private static int done = 0;

    private Checks() {
    }

    interface Call {
        Object answer();
    }

    /** Compares the text of an answer, or the name of the exception that a call throws. */
    static void due(String what, Object want, Call call) {
        done++;
        String got = answerOf(call);
        if (!got.equals(String.valueOf(want))) {
            wrong++;
            System.out.println(what + " answered " + got + ", due is " + want);
        }
    }

    static String answerOf(Call call) {
        try {
            return String.valueOf(call.answer());
        } catch (RuntimeException e) {
            return e.getClass().getSimpleName();
        }
    }

    /** Like due, and besides: a call that throws changes nothing that can be seen. */
    static void refused(String what, KiteQuarrel q, String exception, Call call) {
        String before = seen(q);
        due(what, exception, call);
        due(what + ", and changes nothing", before, () -> seen(q));
    }

    static void feed(KiteQuarrel q, String text) {
        StringBuilder padded = new StringBuilder(text);
        while (padded.length() % 20 != 0) padded.append('x');
        int start = q.feed(0, 0, 0, 0, 0) - 20;
        if (start < 0) {
            throw new IllegalStateException("the buffer is too full");
        }
        q.truncate(start);
        for (int at = 0; at < padded.length(); at += 20) {
            int[] five = new int[5];
            for (int i = 0; i < 20; i++) five[i / 4] = five[i / 4] << 8 | padded.charAt(at + i) & 255;
            if (q.feed(five[0], five[1], five[2], five[3], five[4]) < 0) {
                throw new IllegalStateException("the buffer is too full");
            }
        }
        q.truncate(start + text.length());
    }

    static int parse(KiteQuarrel q, String text) {
        feed(q, text);
        return q.parse();
    }

    static KiteQuarrel field(String text) {
        KiteQuarrel q = new KiteQuarrel();
        due("parse " + text, false, () -> parse(q, text) < 0);
        return q;
    }

    static String output(KiteQuarrel q) {
        return output(q, 0, 700);
    }

    /** A part of the output, for texts of more bytes than an object may be asked for. */
    static String output(KiteQuarrel q, int from, int to) {
        StringBuilder text = new StringBuilder();
        for (int i = from; i < to; i++) {
            int read = q.outputByte(i);
            if (read == KiteQuarrel.NONE) break;
            text.append((char) read);
        }
        return text.toString();
    }

    /** All that can be seen without altering anything but the output (which is left as it is, too). */
    static String seen(KiteQuarrel q) {
        StringBuilder s = new StringBuilder();
        for (int what = 0; what <= 12; what++) s.append(q.count(what)).append(' ');
        for (int what = 0; what <= 5; what++) s.append(q.setting(what)).append(' ');
        s.append(q.errorCode()).append(' ').append(q.errorOffset()).append(" winds");
        for (int wind = 0; wind < q.count(1); wind++) {
            for (int what = 0; what <= 3; what++) s.append(' ').append(q.wind(wind, what));
        }
        for (int kite = 0; kite < q.count(0); kite++) {
            s.append(" kite");
            for (int what = 0; what <= 13; what++) s.append(' ').append(q.kite(kite, what));
        }
        for (int event = 0; event < q.count(8); event++) {
            s.append(" event");
            for (int what = 0; what <= 5; what++) s.append(' ').append(q.event(event, what));
        }
        return s.append(" output ").append(output(q)).append(" buffer ").append(bufferLength(q)).toString();
    }

    static int bufferLength(KiteQuarrel q) {
        int fed = q.feed(0, 0, 0, 0, 0);
        if (fed != KiteQuarrel.NONE) {
            q.truncate(fed - 20);
            return fed - 20;
        }
        int length = 700;
        // only the length that it has leaves the buffer as it is, so the first true one is looked for from above
        while (length > 680 && !q.truncate(length)) length--;
        return length;
    }

    static void end(String name) {
        System.out.println(name + ": " + done + " checks, " + wrong + " wrong");
        if (wrong != 0) System.exit(1);
    }
}
