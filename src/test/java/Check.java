/** What the project's tests share: counted comparisons, and calls that are clumsy to write by hand. */
final class Check {
    static final String HEAD = "table tolerance 2 patience 5 least 5;";
    static final String SIX = HEAD + "worker a team 0 quota 5;worker b team 1 quota 5;worker c team 2 quota 5;"
            + "worker d team 3 quota 5;worker e team 4 quota 5;worker f team 5 quota 5;";

    private static int wrong = 0;
    private static int done = 0;

    interface Call {
        void run();
    }

    private Check() {
    }

    static void due(String call, long got, long want) {
        done++;
        if (got != want) {
            tell(call + " answered " + got + ", due is " + want);
        }
    }

    static void due(String call, boolean got, boolean want) {
        due(call, got ? 1 : 0, want ? 1 : 0);
    }

    static void due(String call, double got, double want) {
        done++;
        if (!(got == want)) {
            tell(call + " answered " + got + ", due is " + want);
        }
    }

    static void due(String call, String got, String want) {
        done++;
        if (!got.equals(want)) {
            tell(call + " answered \"" + got + "\", due is \"" + want + "\"");
        }
    }

    /** The exception's own class counts: one that the machine throws is of a class below the one that is due. */
    static void dueThrow(String call, Class<?> want, Call code) {
        done++;
        try {
            code.run();
        } catch (RuntimeException e) {
            if (e.getClass() != want) {
                tell(call + " threw " + e + ", due is " + want.getName());
            }
            return;
        }
        tell(call + " threw nothing, due is " + want.getName());
    }

    static void noWorker(String call, Call code) {
        dueThrow(call, IndexOutOfBoundsException.class, code);
    }

    static void noValue(String call, Call code) {
        dueThrow(call, IllegalArgumentException.class, code);
    }

    static void noState(String call, Call code) {
        dueThrow(call, IllegalStateException.class, code);
    }

    static void tell(String line) {
        wrong++;
        if (wrong <= 40) {
            System.out.println(line);
        }
    }

    /** Ends the test: exit code 1 if a comparison failed. */
    static void finish(String name) {
        System.out.println(name + ": " + done + " comparisons, " + wrong + " wrong");
        if (wrong > 0) {
            System.exit(1);
        }
    }

    /** Puts exactly these bytes behind what the (empty) input buffer holds. */
    static void put(ReviewTable x, int[] bytes) {
        for (int from = 0; from < bytes.length; from += 20) {
            x.append(four(bytes, from), four(bytes, from + 4), four(bytes, from + 8), four(bytes, from + 12),
                    four(bytes, from + 16));
        }
        if (bytes.length > 0) {
            x.truncate(bytes.length);
        }
    }

    static void put(ReviewTable x, String text) {
        put(x, bytesOf(text));
    }

    static int load(ReviewTable x, String text) {
        put(x, text);
        return x.load();
    }

    static ReviewTable loaded(String text) {
        ReviewTable x = new ReviewTable();
        int answer = load(x, text);
        if (answer < 0) {
            tell("load of \"" + text + "\" answered " + answer + ", code " + x.errorCode() + " at " + x.errorPosition());
        }
        return x;
    }

    static int[] bytesOf(String text) {
        int[] bytes = new int[text.length()];
        for (int i = 0; i < bytes.length; i++) {
            bytes[i] = text.charAt(i) & 255;
        }
        return bytes;
    }

    private static int four(int[] bytes, int from) {
        int four = 0;
        for (int i = from; i < from + 4; i++) {
            four = four << 8 | (i < bytes.length ? bytes[i] & 255 : 0);
        }
        return four;
    }

    static String output(ReviewTable x, int length) {
        StringBuilder text = new StringBuilder();
        for (int i = 0; i < length; i++) {
            text.append((char) x.outputByte(i));
        }
        return text.toString();
    }

    static String rowsText(ReviewTable x) {
        return output(x, x.writeRows());
    }

    static String rowText(ReviewTable x, int row) {
        return output(x, x.writeRow(row));
    }

    static String workersText(ReviewTable x) {
        return output(x, x.writeWorkers());
    }

    /** The workers take the row, in this order. */
    static void take(ReviewTable x, int row, int... workers) {
        for (int w : workers) {
            x.takeRow(w, row);
        }
    }

    /** The workers take the row and deliver their results, one after the other: pairs of a worker and its result. */
    static void work(ReviewTable x, int row, int... pairs) {
        for (int i = 0; i < pairs.length; i += 2) {
            x.takeRow(pairs[i], row);
            x.deliver(pairs[i], row, pairs[i + 1]);
        }
    }

    static void trusts(String when, ReviewTable x, int... want) {
        for (int i = 0; i < want.length; i++) {
            due(when + ": trust of " + i, x.worker(i, 2), want[i]);
        }
    }

    /** All that the questions tell of a table, as one text; what can be undone and the buffers are not in it. */
    static String told(ReviewTable x) {
        StringBuilder text = new StringBuilder();
        for (int i = 0; i <= 10; i++) {
            text.append(x.property(i)).append(' ');
        }
        for (int i = 0; i < x.property(0); i++) {
            text.append('\n');
            for (int what = 0; what <= 8; what++) {
                text.append(x.worker(i, what)).append(' ');
            }
            for (int other = 0; other < x.property(0); other++) {
                text.append(x.strikes(i, other)).append(x.isBarred(i, other) ? "x " : " ");
            }
            text.append(x.accuracy(i)).append(' ').append(x.offers(i)).append(' ').append(x.nextFor(i));
        }
        for (int i = 0; i < x.property(1); i++) {
            text.append('\n');
            for (int what = 0; what <= 6; what++) {
                text.append(x.row(i, what)).append(' ');
            }
            for (int k = 0; k < x.row(i, 4); k++) {
                text.append(x.taking(i, k, 0)).append('=').append(x.taking(i, k, 1)).append('@').append(x.taking(i, k, 2)).append(' ');
            }
            text.append(x.finishers(i));
        }
        return text.toString();
    }

    /** What told() tells, and what can be undone, the parse error and the output. */
    static String toldAll(ReviewTable x) {
        return told(x) + "\n" + x.undoCount() + " " + x.errorCode() + " " + x.errorPosition() + " " + written(x);
    }

    /** The output buffer, byte by byte until there is none. */
    static String written(ReviewTable x) {
        StringBuilder text = new StringBuilder();
        try {
            for (int i = 0; i < 1000; i++) {
                text.append((char) x.outputByte(i));
            }
        } catch (java.util.NoSuchElementException e) {
            return text.toString();
        }
        tell("outputByte answers for ever");
        return text.toString();
    }

    // ---- texts with and without an error ----------------------------------------------------

    static void accepted(String text, int workers, int rows) {
        ReviewTable x = new ReviewTable();
        due("load of \"" + text + "\"", load(x, text), workers);
        due("errorCode of \"" + text + "\"", x.errorCode(), 0);
        due("errorPosition of \"" + text + "\"", x.errorPosition(), -1);
        due("rows of \"" + text + "\"", x.property(1), rows);
    }

    /** A text with an error changes only the buffer and the parse error. */
    static void refusedAt(String text, int code, int position) {
        ReviewTable x = loaded(HEAD + "worker old team 3 quota 2;rows 3 size 4;");
        due("load " + text, load(x, text), -4);
        due("errorCode of " + text, x.errorCode(), code);
        due("errorPosition of " + text, x.errorPosition(), position);
        due("workers after " + text, x.property(0), 1);
        due("rows after " + text, x.property(1), 3);
        due("undoCount after " + text, x.undoCount(), 1);
        due("buffer after " + text, x.append(0, 0, 0, 0, 0), 20);
    }

    /** The error is at the place of the mark ^, which is taken out. */
    static void refused(int code, String text) {
        int position = text.indexOf('^');
        refusedAt(text.substring(0, position) + text.substring(position + 1), code, position);
    }
}
