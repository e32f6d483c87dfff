/** Promises 50 to 53: slots and undo. */
public final class UndoTest {
    private static final String HEAD = Check.HEAD;
    private static final String TEXT = HEAD + "worker a team 0 quota 5;worker b team 1 quota 5;worker c team 2 quota 5;"
            + "worker d team 3 quota 5 trust 3;rows 2 size 4;rows 2 size 9;";

    interface Change {
        void in(ReviewTable x);
    }

    /** A table with all that there can be: takings in work, a finished row, an audited one, strikes. */
    private static ReviewTable busy() {
        ReviewTable x = Check.loaded(TEXT);
        x.take(0);
        x.take(1);
        x.deliver(0, 0, 5);
        x.deliver(1, 0, 6);
        x.audit(0, 50);
        x.pass(2);
        x.takeRow(0, 1);
        x.takeRow(2, 1);
        x.deliver(2, 1, 30);
        x.takeRow(1, 2);
        x.takeRow(2, 2);
        x.deliver(1, 2, 40);
        x.deliver(2, 2, 40);
        x.keep(1);
        x.setTable(0, 3);
        return x;
    }

    private static void undone(String call, Change change) {
        ReviewTable x = busy();
        String before = Check.told(x);
        Check.due("undoCount, full", x.undoCount(), 6);
        change.in(x);
        Check.due("undoCount after " + call, x.undoCount(), 6);
        String after = Check.told(x);
        Check.due(call + " changes something", after.equals(before), false);
        Check.due("undo of " + call, x.undo(), 5);
        Check.due("undoCount", x.undoCount(), 5);
        Check.due("state after undo of " + call, Check.told(x), before);
    }

    /** Promise 52: each call that can be undone. */
    private static void eachCall() {
        undone("load", x -> Check.load(x, HEAD));
        undone("take", x -> x.take(0));
        undone("takeRow", x -> x.takeRow(1, 3));
        undone("deliver", x -> x.deliver(0, 1, 31));
        undone("deliver, disputed", x -> x.deliver(0, 1, 90));
        undone("pass", x -> x.pass(50));
        undone("audit", x -> x.audit(2, 80));
        undone("setAside", x -> x.setAside(1));
        undone("pardon", x -> x.pardon(3));
        undone("bar", x -> x.bar(0, 1, false));
        undone("addRows", x -> x.addRows(20, 3));
        undone("setTable", x -> x.setTable(0, 20));
        undone("restore", x -> x.restore(1));
    }

    /** Promise 52: calls by which nothing changes count too; those that throw do not. */
    private static void whatCounts() {
        ReviewTable x = new ReviewTable();
        Check.load(x, TEXT);
        Check.due("load", x.undoCount(), 1);
        Check.load(x, "table");
        Check.due("load with an error", x.undoCount(), 1);
        x.setTable(0, 2);
        Check.due("setTable as it was", x.undoCount(), 2);
        x.bar(0, 1, false);
        Check.due("bar as it was", x.undoCount(), 3);
        x.keep(0);
        Check.due("keep", x.undoCount(), 3);
        x.restore(0);
        Check.due("restore as it was", x.undoCount(), 4);
        Check.noState("pardon", () -> x.pardon(0));
        Check.noState("takeRow", () -> x.takeRow(3, 0));
        Check.noValue("pass", () -> x.pass(0));
        Check.noState("audit", () -> x.audit(0, 0));
        x.find();
        x.writeRows();
        Check.due("questions and throws", x.undoCount(), 4);
        for (int left = 3; left >= 0; left--) {
            Check.due("undo", x.undo(), left);
        }
        Check.noState("nothing to undo", () -> x.undo());
        Check.due("before the load", x.property(0), 0);
        Check.due("before the load", x.property(4), 10);
        Check.due("before the load", x.property(5), 5);
    }

    /** Promise 52: the last 6 are kept. */
    private static void lastSix() {
        ReviewTable x = Check.loaded(TEXT);
        for (int i = 1; i <= 20; i++) {
            x.pass(1);
            Check.due("undoCount", x.undoCount(), Math.min(6, 1 + i));
        }
        for (int i = 5; i >= 0; i--) {
            Check.due("undo", x.undo(), i);
            Check.due("time", x.property(2), 14 + i);
        }
        Check.noState("no seventh", () -> x.undo());
        x.pass(9);
        Check.due("undo again", x.undo(), 0);
        Check.due("time", x.property(2), 14);
    }

    /** Promise 52: what undo leaves as it is. */
    private static void whatStays() {
        ReviewTable x = Check.loaded(TEXT);
        x.pass(3);
        x.keep(0);
        int length = x.writeRows();
        Check.load(x, "rows");
        x.append(0x61616161, 0, 0, 0, 0);
        x.undo();
        Check.due("the input buffer", x.append(0, 0, 0, 0, 0), 40);
        Check.due("the output buffer", Check.output(x, length), "o o o o");
        Check.due("the parse error", x.errorCode(), 1);
        Check.due("its position", x.errorPosition(), 0);
        Check.due("time", x.property(2), 0);
        Check.due("the slot", x.restore(0), 3);
    }

    /** Promises 50 and 51. */
    private static void slots() {
        ReviewTable x = Check.loaded(TEXT);
        x.pass(7);
        x.take(0);
        String first = Check.told(x);
        Check.due("keep(0)", x.keep(0), 7);
        Check.noState("restore(1)", () -> x.restore(1));
        x.pass(5);
        x.addRows(2, 2);
        String second = Check.told(x);
        Check.due("keep(1)", x.keep(1), 12);
        Check.load(x, HEAD);
        Check.due("restore(0)", x.restore(0), 7);
        Check.due("as it was", Check.told(x), first);
        x.pass(9);
        x.deliver(1, 0, 0 * x.take(1));
        Check.due("restore(1)", x.restore(1), 12);
        Check.due("as it was", Check.told(x), second);
        Check.due("restore(0), which keeps it", x.restore(0), 7);
        Check.due("as it was", Check.told(x), first);
        x.pass(1);
        x.keep(0);
        Check.due("in place of what was there", x.restore(0), 8);
        x.undo();
        x.undo();
        Check.due("undo of pass", Check.told(x), first);
        Check.due("undo of restore", x.undo(), 3);
        Check.due("undo of restore", Check.told(x), second);
        Check.noWorker("keep(2)", () -> x.keep(2));
        Check.noWorker("keep(-1)", () -> x.keep(-1));
        Check.noWorker("restore(2)", () -> x.restore(2));
        Check.noWorker("restore(-1)", () -> x.restore(-1));
        ReviewTable y = new ReviewTable();
        y.keep(1);
        Check.load(y, TEXT);
        Check.due("restore of a new table", y.restore(1), 0);
        Check.due("workers", y.property(0), 0);
        Check.due("patience", y.property(4), 10);
    }

    public static void main(String[] args) {
        eachCall();
        whatCounts();
        lastSix();
        whatStays();
        slots();
        Check.finish("UndoTest");
    }
}
