/** Promises 2 to 7: the input buffer, load() with its errors, find(). */
public final class InputTest {
    private static final String HEAD = Check.HEAD;

    /** Promise 2 and 3. */
    private static void appendAndTruncate() {
        ReviewTable x = new ReviewTable();
        for (int i = 1; i <= 25; i++) {
            Check.due("append", x.append(-1, 0, 1, 2, 3), 20 * i);
        }
        Check.noState("append beyond 500", () -> x.append(0, 0, 0, 0, 0));
        x.truncate(500);
        x.truncate(481);
        Check.noState("append at 481", () -> x.append(0, 0, 0, 0, 0));
        Check.noValue("truncate(482)", () -> x.truncate(482));
        Check.noValue("truncate(-1)", () -> x.truncate(-1));
        Check.noValue("truncate(least int)", () -> x.truncate(Integer.MIN_VALUE));
        Check.noValue("truncate(greatest int)", () -> x.truncate(Integer.MAX_VALUE));
        x.truncate(480);
        Check.due("append at 480", x.append(0, 0, 0, 0, 0), 500);
        x.truncate(0);
        Check.due("append at 0", x.append(0, 0, 0, 0, 0), 20);
    }

    /** Promise 2: most significant byte first, in the order of the parameters. */
    private static void orderOfBytes() {
        ReviewTable x = Check.loaded(HEAD + "worker abcd team 0 quota 1;worker dcba team 0 quota 1;worker abcdef team 0 quota 1;");
        x.append(0x61626364, 0, 0, 0, 0);
        x.truncate(4);
        Check.due("find abcd", x.find(), 0);
        x.append(0x64636261, 0, 0, 0, 0);
        x.truncate(4);
        Check.due("find dcba", x.find(), 1);
        x.append(0x61626364, 0x65660000, 0, 0, 0);
        x.truncate(6);
        Check.due("find abcdef", x.find(), 2);
    }

    /** Promise 7. */
    private static void find() {
        ReviewTable x = Check.loaded(HEAD + "worker bea team 0 quota 1;worker be team 1 quota 1;");
        String[] texts = {"bea", "be", "", "b", "beaa", "bea ", " bea", "BEA", "be\0", "be\0\0\0", "\u00e2ea", "bea;"};
        int[] want = {0, 1, -1, -1, -1, -1, -1, -1, -1, -1, -1, -1};
        for (int i = 0; i < texts.length; i++) {
            Check.put(x, texts[i]);
            Check.due("find " + texts[i], x.find(), want[i]);
            Check.due("append after find", x.append(0, 0, 0, 0, 0), 20);
            x.truncate(0);
        }
        Check.put(x, "bea");
        x.undo();
        Check.due("find after undo of load", x.find(), -1);
    }

    /** Promise 4 to 6: tokens that cannot stand there, code 1. */
    private static void wrongTokens() {
        Check.refused(1, "^");
        Check.refused(1, "  \n ^");
        Check.refused(1, "^;");
        Check.refused(1, "^rows 1 size 1;");
        Check.refused(1, "^tabletolerance 1 patience 1 least 1;");
        Check.refused(1, "^Table tolerance 1 patience 1 least 1;");
        Check.refused(1, "table ^1");
        Check.refused(1, "table tolerance ^-1 patience 1 least 1;");
        Check.refused(1, "table tolerance 1 ^tolerance 1;");
        Check.refused(1, "table tolerance 1 patience 1 least 1^");
        Check.refused(1, "table tolerance 1 patience 1 least 1 \n^");
        Check.refused(1, "table tolerance 1^\t patience 1 least 1;");
        Check.refused(1, HEAD + "^;");
        Check.refused(1, HEAD + "^" + HEAD);
        Check.refused(1, HEAD + "rows 1 size 1^,");
        Check.refused(1, HEAD + "rows ^size 1;");
        Check.refused(1, HEAD + "rows 1 size^");
        Check.refused(1, HEAD + "^workers a team 1 quota 1;");
        Check.refused(1, HEAD + "worker ^seventy team 1 quota 1;");
        Check.refused(1, HEAD + "worker ^team team 1 quota 1;");
        Check.refused(1, HEAD + "worker ^bar team 1 quota 1;");
        Check.refused(1, HEAD + "worker ^1 team 1 quota 1;");
        Check.refused(1, HEAD + "worker a^1 team 1 quota 1;");
        Check.refused(1, HEAD + "worker a team 1 quota 1 ^quota 1;");
        Check.refused(1, HEAD + "worker a team 1 ^trust 1;");
        Check.refused(1, HEAD + "worker a team 1 quota 1 trust ^;");
        Check.refused(1, HEAD + "worker a team 1 quota 1;bar a ^;");
        Check.refused(1, HEAD + "worker a team 1 quota 1;bar ^size a;");
        Check.refused(1, HEAD + "worker a team 1 quota 1;bar a ^rows;");
        Check.refused(1, HEAD + "worker a team 1 quota 1;bar a ^abcdefg;");
        Check.refused(1, HEAD + "^\u00e9");
    }

    /** Promise 4 to 6: numbers, names and room, codes 2 to 4. */
    private static void wrongValues() {
        Check.refused(2, "table tolerance ^21 patience 1 least 1;");
        Check.refused(2, "table tolerance 20 patience ^0 least 1;");
        Check.refused(2, "table tolerance 20 patience ^51 least 1;");
        Check.refused(2, "table tolerance 20 patience 50 least ^20;");
        Check.refused(2, "table tolerance ^4294967296 patience 1 least 1;");
        Check.refused(2, "table tolerance ^18446744073709551616000000000000000000000001 patience 1 least 1;");
        Check.refused(2, HEAD + "worker a team ^6 quota 1;");
        Check.refused(2, HEAD + "worker a team 5 quota ^0;");
        Check.refused(2, HEAD + "worker a team 5 quota ^6;");
        Check.refused(2, HEAD + "worker a team 5 quota 5 trust ^21;");
        Check.refused(2, HEAD + "rows ^0 size 1;");
        Check.refused(2, HEAD + "rows ^25 size 1;");
        Check.refused(2, HEAD + "rows 1 size ^0;");
        Check.refused(2, HEAD + "rows 1 size ^10;");
        Check.refused(2, HEAD + "rows 24 size 1;rows ^25 size 1;");
        Check.refused(2, HEAD + "rows 24 size 1;rows ^0 size 1;");
        Check.refused(3, HEAD + "worker a team 1 quota 1;worker ^a team 1 quota 1;");
        Check.refused(3, HEAD + "bar ^a b;");
        Check.refused(3, HEAD + "worker a team 1 quota 1;bar ^b a;");
        Check.refused(3, HEAD + "worker a team 1 quota 1;bar a ^b;worker b team 1 quota 1;");
        Check.refused(3, HEAD + "worker a team 1 quota 1;bar a ^a;");
        Check.refused(3, HEAD + "worker a team 1 quota 1;worker b team 1 quota 1;bar a b;bar a ^b;");
        Check.refused(3, HEAD + "worker a team 1 quota 1;worker b team 1 quota 1;bar a b;bar b ^a;");
        Check.refused(4, HEAD + "rows 24 size 1;rows ^1 size 1;");
        Check.refused(4, HEAD + "rows 20 size 1;rows ^5 size 10;");
        StringBuilder six = new StringBuilder(HEAD);
        for (char c = 'a'; c <= 'f'; c++) {
            six.append("worker ").append(c).append(" team 1 quota 1;");
        }
        Check.refused(4, six + "^worker a team 1 quota 1;");
        Check.refused(4, six + "^worker");
    }

    /** Promise 4: texts without an error, and what they make. */
    private static void goodTexts() {
        ReviewTable x = new ReviewTable();
        Check.due("wrong load", Check.load(x, "table"), -4);
        Check.due("load", Check.load(x, "table tolerance20patience\n50least019;worker abcdef team 05 quota 5 trust 20;"
                + "worker a team 0 quota 1 trust 0;worker b team 1 quota 2;bar b abcdef;rows 20 size 9;rows 4 size 1; \n"), 3);
        Check.due("errorCode", x.errorCode(), 0);
        Check.due("errorPosition", x.errorPosition(), -1);
        int[] properties = {3, 24, 0, 20, 50, 19, 24, 0, 0, 0, 0};
        for (int i = 0; i <= 10; i++) {
            Check.due("property(" + i + ")", x.property(i), properties[i]);
        }
        int[][] workers = {{5, 5, 20}, {0, 1, 0}, {1, 2, 10}};
        for (int i = 0; i < 3; i++) {
            for (int what = 0; what < 9; what++) {
                Check.due("worker(" + i + "," + what + ")", x.worker(i, what), what < 3 ? workers[i][what] : 0);
            }
        }
        Check.due("row(19,0)", x.row(19, 0), 9);
        Check.due("row(20,0)", x.row(20, 0), 1);
        Check.due("row(23,0)", x.row(23, 0), 1);
        Check.due("isBarred(0,2)", x.isBarred(0, 2), true);
        Check.due("isBarred(0,1)", x.isBarred(0, 1), false);
        Check.due("load of the least text", Check.load(x, "table tolerance 0 patience 1 least 0;"), 0);
        Check.due("property(0)", x.property(0), 0);
        Check.due("property(1)", x.property(1), 0);
        Check.due("property(4)", x.property(4), 1);
        Check.due("load of nothing", x.load(), -4);
        Check.due("errorCode of nothing", x.errorCode(), 1);
        Check.due("errorPosition of nothing", x.errorPosition(), 0);
    }

    /** Promise 4: all that was before is gone behind load(), but the slots and the output buffer. */
    private static void loadMakesAllNew() {
        String text = HEAD + "worker a team 0 quota 2;worker b team 1 quota 2;rows 2 size 3;bar a b;";
        ReviewTable x = Check.loaded(text);
        x.bar(0, 1, false);
        x.take(0);
        x.take(1);
        x.deliver(0, 0, 5);
        x.deliver(1, 0, 5);
        x.audit(0, 50);
        x.pass(9);
        x.keep(0);
        int length = x.writeRows();
        Check.due("load", Check.load(x, text.replace("bar a b;", "")), 2);
        Check.due("output", Check.output(x, length), "f50* o");
        Check.due("time", x.property(2), 0);
        Check.due("strikes", x.strikes(0, 1), 0);
        Check.due("isBarred", x.isBarred(0, 1), false);
        Check.due("audited", x.property(10), 0);
        Check.due("row(0,6)", x.row(0, 6), 0);
        Check.due("row(0,2)", x.row(0, 2), -1);
        Check.due("finishers(0)", x.finishers(0), 0);
        Check.due("worker(0,2)", x.worker(0, 2), 10);
        Check.due("worker(0,8)", x.worker(0, 8), 0);
        Check.due("restore(0)", x.restore(0), 9);
        Check.due("row(0,2)", x.row(0, 2), 50);
    }

    public static void main(String[] args) {
        appendAndTruncate();
        orderOfBytes();
        find();
        wrongTokens();
        wrongValues();
        goodTexts();
        loadMakesAllNew();
        Check.finish("InputTest");
    }
}
