import java.util.NoSuchElementException;

/** Promises 54 to 57: the output buffer. */
public final class OutputTest {
    private static final String TEXT = "table tolerance 2 patience 5 least 5;worker amosam team 0 quota 5;"
            + "worker b team 1 quota 5 trust 5;worker cy team 2 quota 5 trust 20;rows 6 size 9;";

    /** Promise 54. */
    private static void rows() {
        ReviewTable x = Check.loaded(TEXT);
        Check.due("writeRows()", x.writeRows(), 11);
        Check.due("rows", Check.rowsText(x), "o o o o o o");
        Check.work(x, 1, 0, 10, 1, 20);
        Check.work(x, 2, 0, 10, 2, 8);
        Check.work(x, 3, 0, 0, 2, 0);
        Check.work(x, 4, 0, 99, 2, 97);
        x.audit(3, 0);
        x.audit(4, 3);
        x.setAside(5);
        Check.due("rows", Check.rowsText(x), "o d f8 f0* f3* a");
        x.undo();
        Check.due("rows", Check.rowsText(x), "o d f8 f0* f3* o");
        ReviewTable none = new ReviewTable();
        Check.due("no rows", none.writeRows(), 0);
        Check.dueThrow("outputByte(0)", NoSuchElementException.class, () -> none.outputByte(0));
    }

    /** Promise 55. */
    private static void row() {
        ReviewTable x = Check.loaded(TEXT);
        Check.due("no takings", x.writeRow(0), 0);
        x.pass(98);
        x.takeRow(2, 0);
        x.takeRow(0, 0);
        Check.due("in work", Check.rowText(x, 0), "cy@103 amosam@103");
        x.deliver(0, 0, 0);
        Check.due("a result", Check.rowText(x, 0), "cy@103 amosam=0");
        x.deliver(2, 0, 99);
        x.takeRow(1, 0);
        Check.due("three", Check.rowText(x, 0), "cy=99 amosam=0 b@103");
        x.pass(6);
        Check.due("the late one is gone", Check.rowText(x, 0), "cy=99 amosam=0");
        Check.due("the longest", x.writeRow(0), 14);
        Check.dueThrow("writeRow(6)", IndexOutOfBoundsException.class, () -> x.writeRow(6));
        Check.dueThrow("writeRow(-1)", IndexOutOfBoundsException.class, () -> x.writeRow(-1));
        Check.due("a call that throws changes nothing", Check.output(x, 14), "cy=99 amosam=0");
    }

    /** Promise 56. */
    private static void workers() {
        ReviewTable x = Check.loaded(TEXT);
        Check.due("workers", Check.workersText(x), "amosam:10/0 b:5/0 cy:20/0");
        x.setTable(2, 6);
        Check.work(x, 0, 0, 1, 2, 1);
        Check.work(x, 1, 0, 1, 2, 1);
        Check.due("workers", Check.workersText(x), "amosam:12/18 b:5!/0 cy:20/18");
        ReviewTable none = new ReviewTable();
        none.addRows(3, 3);
        none.writeRows();
        Check.due("no workers", none.writeWorkers(), 0);
        Check.dueThrow("outputByte(0)", NoSuchElementException.class, () -> none.outputByte(0));
    }

    /** Promise 57. */
    private static void bytes() {
        ReviewTable x = Check.loaded(TEXT);
        Check.dueThrow("outputByte(0)", NoSuchElementException.class, () -> x.outputByte(0));
        x.writeWorkers();
        Check.due("outputByte(0)", x.outputByte(0), 97);
        Check.due("outputByte(6)", x.outputByte(6), 58);
        Check.due("outputByte(9)", x.outputByte(9), 47);
        Check.due("outputByte(11)", x.outputByte(11), 32);
        Check.due("replaced", x.writeRows(), 11);
        Check.due("outputByte(10)", x.outputByte(10), 111);
        Check.dueThrow("outputByte(11)", NoSuchElementException.class, () -> x.outputByte(11));
        Check.dueThrow("outputByte(-1)", NoSuchElementException.class, () -> x.outputByte(-1));
        Check.dueThrow("outputByte(greatest int)", NoSuchElementException.class, () -> x.outputByte(Integer.MAX_VALUE));
        x.take(0);
        x.undo();
        Check.load(x, TEXT);
        Check.due("the buffer stays", Check.output(x, 11), "o o o o o o");
    }

    public static void main(String[] args) {
        rows();
        row();
        workers();
        bytes();
        Check.finish("OutputTest");
    }
}
