/** The example of README.md, call by call, with the answers that it tells. It uses nothing but the class itself. */
public final class ExampleTest {

    /** Puts a text into the empty input buffer: 20 bytes a call, and what is too much is cut. */
    static void put(ReviewTable x, String text) {
        for (int from = 0; from < text.length(); from += 20) {
            x.append(four(text, from), four(text, from + 4), four(text, from + 8), four(text, from + 12),
                    four(text, from + 16));
        }
        x.truncate(text.length());
    }

    static int four(String text, int from) {
        int four = 0;
        for (int i = from; i < from + 4; i++) {
            four = four << 8 | (i < text.length() ? text.charAt(i) : ' ');
        }
        return four;
    }

    /** What the output buffer holds after one of the write calls, which answer its length. */
    static String written(ReviewTable x, int length) {
        StringBuilder text = new StringBuilder();
        for (int i = 0; i < length; i++) {
            text.append((char) x.outputByte(i));
        }
        return text.toString();
    }

    private static ReviewTable loading() {
        ReviewTable x = new ReviewTable();
        put(x, "table tolerance 2 patience 5 least 5; rows 25 size 4;");
        Check.due("load() with too many rows", x.load(), ReviewTable.PARSE_ERROR);
        Check.due("errorCode()", x.errorCode(), 2);
        Check.due("errorPosition()", x.errorPosition(), 43);
        put(x, "table tolerance 2 patience 5 least 5;\n"
                + "worker bea team 0 quota 2; worker cy team 1 quota 2 trust 12; worker dee team 2 quota 1;\n"
                + "rows 2 size 4; bar bea dee;");
        Check.due("load()", x.load(), 3);
        put(x, "cy");
        Check.due("find()", x.find(), 1);
        return x;
    }

    private static void working(ReviewTable x) {
        Check.due("take(0)", x.take(0), 0);
        Check.due("refusal(2, 0)", x.refusal(2, 0), 6);
        Check.due("takeRow(1, 0)", x.takeRow(1, 0), 5);
        Check.due("deliver(0, 0, 50)", x.deliver(0, 0, 50), 0);
        Check.due("writeRow(0)", written(x, x.writeRow(0)), "bea=50 cy@5");
        Check.due("stateIf(1, 0, 52)", x.stateIf(1, 0, 52), 2);
        Check.due("deliver(1, 0, 60)", x.deliver(1, 0, 60), 1);
        Check.due("isStuck(0)", x.isStuck(0), true);
        Check.due("bar(0, 2, false)", x.bar(0, 2, false), true);
        Check.due("takeRow(2, 0)", x.takeRow(2, 0), 5);
        Check.due("deliver(2, 0, 59)", x.deliver(2, 0, 59), 2);
        Check.due("writeRows()", written(x, x.writeRows()), "f60 o");
    }

    private static void auditAndTime(ReviewTable x) {
        Check.due("nextAudit()", x.nextAudit(), 0);
        Check.due("audit(0, 61)", x.audit(0, 61), true);
        Check.due("writeWorkers()", written(x, x.writeWorkers()), "bea:3!/0 cy:15/4 dee:13/4");
        Check.due("keep(0)", x.keep(0), 0);
        Check.due("pardon(0)", x.pardon(0), 3);
        Check.due("take(1)", x.take(1), 1);
        Check.due("pass(6)", x.pass(6), 1);
        Check.due("worker(1, 2)", x.worker(1, 2), 14);
        Check.due("undo()", x.undo(), 5);
        Check.due("worker(1, 2) again", x.worker(1, 2), 15);
        Check.due("restore(0)", x.restore(0), 0);
        Check.due("suspended()", x.suspended(), 1);
    }

    public static void main(String[] args) {
        ReviewTable x = loading();
        working(x);
        auditAndTime(x);
        Check.finish("ExampleTest");
    }
}
