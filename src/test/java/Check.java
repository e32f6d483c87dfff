/** What the project's tests share: counted comparisons, and calls that are clumsy to write by hand. */
final class Check {
    private static int wrong = 0;
    private static int done = 0;

    interface Call {
        void run();
    }

    private Check() {
    }

    static void due(String call, long got, long want) {
        done++;
        if (got != want) {
            tell(call + " answered " + got + ", due is " + want);
        }
    }

    static void due(String call, boolean got, boolean want) {
        due(call, got ? 1 : 0, want ? 1 : 0);
    }

    static void due(String call, double got, double want) {
        done++;
        if (!(got == want)) {
            tell(call + " answered " + got + ", due is " + want);
        }
    }

    static void due(String call, String got, String want) {
        done++;
        if (!got.equals(want)) {
            tell(call + " answered \"" + got + "\", due is \"" + want + "\"");
        }
    }

    /** The exception's own class counts: one that the machine throws is of a class below the one that is due. */
    static void dueThrow(String call, Class<?> want, Call code) {
        done++;
        try {
            code.run();
        } catch (RuntimeException e) {
            if (e.getClass() != want) {
                tell(call + " threw " + e + ", due is " + want.getName());
            }
            return;
        }
        tell(call + " threw nothing, due is " + want.getName());
    }

    static void noWorker(String call, Call code) {
        dueThrow(call, IndexOutOfBoundsException.class, code);
    }

    static void noValue(String call, Call code) {
        dueThrow(call, IllegalArgumentException.class, code);
    }

    static void noState(String call, Call code) {
        dueThrow(call, IllegalStateException.class, code);
    }

    static void tell(String line) {
        wrong++;
        if (wrong <= 40) {
            System.out.println(line);
        }
    }

    /** Ends the test: exit code 1 if a comparison failed. */
    static void finish(String name) {
        System.out.println(name + ": " + done + " comparisons, " + wrong + " wrong");
        if (wrong > 0) {
            System.exit(1);
        }
    }

    /** Puts exactly these bytes behind what the (empty) input buffer holds. */
    static void put(ReviewTable x, int[] bytes) {
        for (int from = 0; from < bytes.length; from += 20) {
            x.append(four(bytes, from), four(bytes, from + 4), four(bytes, from + 8), four(bytes, from + 12),
                    four(bytes, from + 16));
        }
        if (bytes.length > 0) {
            x.truncate(bytes.length);
        }
    }

    static void put(ReviewTable x, String text) {
        put(x, bytesOf(text));
    }

    static int load(ReviewTable x, String text) {
        put(x, text);
        return x.load();
    }

    static ReviewTable loaded(String text) {
        ReviewTable x = new ReviewTable();
        int answer = load(x, text);
        if (answer < 0) {
            tell("load of \"" + text + "\" answered " + answer + ", code " + x.errorCode() + " at " + x.errorPosition());
        }
        return x;
    }

    static int[] bytesOf(String text) {
        int[] bytes = new int[text.length()];
        for (int i = 0; i < bytes.length; i++) {
            bytes[i] = text.charAt(i) & 255;
        }
        return bytes;
    }

    private static int four(int[] bytes, int from) {
        int four = 0;
        for (int i = from; i < from + 4; i++) {
            four = four << 8 | (i < bytes.length ? bytes[i] & 255 : 0);
        }
        return four;
    }

    static String output(ReviewTable x, int length) {
        StringBuilder text = new StringBuilder();
        for (int i = 0; i < length; i++) {
            text.append((char) x.outputByte(i));
        }
        return text.toString();
    }

    static String rowsText(ReviewTable x) {
        return output(x, x.writeRows());
    }

    static String rowText(ReviewTable x, int row) {
        return output(x, x.writeRow(row));
    }

    static String workersText(ReviewTable x) {
        return output(x, x.writeWorkers());
    }
}
