/** Promises 40 to 49: the calls that change the table. */
public final class ChangesTest {
    private static final String HEAD = Check.HEAD;
    private static final String SIX = Check.SIX;

    /** Promise 40. */
    private static void take() {
        ReviewTable x = Check.loaded(SIX + "rows 5 size 4;");
        Check.due("the lowest", x.take(0), 0);
        Check.due("the next one", x.take(0), 1);
        Check.due("one with a taking", x.take(1), 0);
        Check.due("one with a taking", x.take(1), 1);
        Check.due("another one", x.take(2), 2);
        x.takeRow(3, 4);
        x.takeRow(4, 4);
        x.deliver(3, 4, 1);
        x.deliver(4, 4, 9);
        Check.due("the disputed one", x.take(2), 4);
        Check.due("made", x.worker(2, 4), 2);
        Check.due("in work", x.worker(2, 3), 2);
        Check.due("due", x.taking(2, 0, 2), 5);
        Check.due("with a taking", x.take(5), 2);
        Check.due("the last one", x.take(5), 3);
        Check.noState("none is left", () -> x.take(5));
        Check.noWorker("take(6)", () -> x.take(6));
        Check.noWorker("take(-1)", () -> x.take(-1));
        int before = x.undoCount();
        Check.noState("none is left", () -> x.take(5));
        Check.due("undoCount", x.undoCount(), before);
    }

    /** Promise 41. */
    private static void takeRow() {
        ReviewTable x = Check.loaded(SIX + "rows 2 size 4;");
        x.pass(3);
        Check.due("takeRow(0,1)", x.takeRow(0, 1), 8);
        x.setTable(1, 50);
        Check.due("takeRow(1,1)", x.takeRow(1, 1), 53);
        Check.due("the other keeps its time", x.taking(1, 0, 2), 8);
        Check.due("set of takers", x.row(1, 6), 3);
        Check.noState("no worker needed", () -> x.takeRow(2, 1));
        Check.noWorker("takeRow(0,2)", () -> x.takeRow(0, 2));
        Check.noWorker("takeRow(6,1)", () -> x.takeRow(6, 1));
        Check.due("made by a refused one", x.worker(2, 4), 0);
    }

    /** Promise 42: two results. */
    private static void deliverTwo() {
        ReviewTable x = Check.loaded(HEAD
                + "worker a team 0 quota 5 trust 19;worker b team 1 quota 5 trust 20;worker c team 2 quota 5 trust 20;rows 4 size 7;");
        x.takeRow(0, 0);
        x.takeRow(1, 0);
        Check.due("one result", x.deliver(1, 0, 99), 0);
        Check.due("the second one agrees", x.deliver(0, 0, 97), 2);
        Check.due("result of the more trusted", x.row(0, 2), 99);
        Check.trusts("stops at 20", x, 20, 20, 20);
        Check.work(x, 1, 2, 50, 0, 52);
        Check.due("same trust: the first taking", x.row(1, 2), 50);
        Check.due("points", x.worker(0, 8), 14);
        Check.due("finished by it", x.worker(0, 6), 2);
        Check.due("results", x.worker(0, 5), 2);
        Check.due("in work", x.worker(0, 3), 0);
        Check.work(x, 2, 0, 0, 1, 3);
        Check.due("they differ by 3", x.row(2, 1), 1);
        Check.due("no points", x.worker(0, 8), 14);
        Check.trusts("disputed", x, 20, 20, 20);
        x.takeRow(0, 3);
        x.takeRow(1, 3);
        x.deliver(1, 3, 10);
        x.deliver(0, 3, 12);
        Check.due("first taking, though delivered last", x.row(3, 2), 12);
        Check.noWorker("deliver(3,0,100)", () -> x.deliver(3, 0, 100));
        Check.noWorker("deliver(0,4,100)", () -> x.deliver(0, 4, 100));
        Check.noValue("deliver(0,0,100)", () -> x.deliver(0, 0, 100));
        Check.noValue("deliver(0,0,-1)", () -> x.deliver(0, 0, -1));
        Check.noState("deliver(0,0,0)", () -> x.deliver(0, 0, 0));
        Check.noState("deliver(2,2,0)", () -> x.deliver(2, 2, 0));
    }

    /** Promise 42: a third result. */
    private static void deliverThree() {
        ReviewTable x = Check.loaded(SIX + "rows 5 size 3;");
        Check.work(x, 0, 0, 10, 1, 20, 2, 18);
        Check.due("finished by b and c", x.finishers(0), 6);
        Check.due("same trust: the earlier taking", x.row(0, 2), 20);
        Check.trusts("a is left", x, 7, 11, 11, 10, 10, 10);
        Check.work(x, 1, 0, 10, 1, 14, 2, 12);
        Check.due("as near: the first one", x.finishers(1), 5);
        Check.due("the more trusted", x.row(1, 2), 12);
        Check.trusts("the one left agrees", x, 8, 11, 12, 10, 10, 10);
        Check.work(x, 2, 3, 10, 4, 15, 5, 13);
        Check.due("nearer to the second", x.finishers(2), 48);
        Check.trusts("d is left", x, 8, 11, 12, 7, 11, 11);
        Check.work(x, 3, 3, 10, 4, 20);
        x.takeRow(5, 3);
        Check.due("agrees with none", x.deliver(5, 3, 15), 3);
        Check.trusts("all three lose", x, 8, 11, 12, 6, 10, 10);
        Check.due("result of one set aside", x.row(3, 2), -1);
        Check.due("its takings stay", x.row(3, 4), 3);
        Check.due("finishers of one set aside", x.finishers(3), 0);
        x.setTable(0, 5);
        Check.work(x, 4, 0, 10, 1, 16, 2, 15);
        Check.due("nearer second, first agrees too", x.finishers(4), 6);
        Check.trusts("a agrees too", x, 8, 12, 13);
        Check.due("points of c", x.worker(2, 8), 9);
        Check.due("points of a", x.worker(0, 8), 3);
    }

    /** Promise 43. */
    private static void pass() {
        ReviewTable x = Check.loaded(HEAD
                + "worker a team 0 quota 5 trust 1;worker b team 1 quota 5 trust 9;worker c team 2 quota 5;rows 3 size 4;");
        x.setTable(2, 0);
        x.takeRow(0, 0);
        x.takeRow(0, 1);
        x.pass(1);
        x.takeRow(1, 0);
        Check.due("at its time it is not late", x.pass(4), 0);
        Check.due("in work still", x.row(0, 4), 2);
        Check.due("one tick more", x.pass(1), 2);
        Check.due("row(0,4)", x.row(0, 4), 1);
        Check.due("who is left", x.taking(0, 0, 0), 1);
        Check.due("its time", x.taking(0, 0, 2), 6);
        Check.trusts("not below 0", x, 0, 9, 10);
        Check.due("late", x.worker(0, 7), 2);
        Check.due("in work", x.worker(0, 3), 0);
        Check.due("made", x.worker(0, 4), 2);
        Check.due("took it", x.row(1, 6), 1);
        Check.due("delivered at its time", x.deliver(1, 0, 3), 0);
        Check.due("a result is never late", x.pass(99), 0);
        Check.due("time", x.property(2), 105);
        Check.noValue("pass(0)", () -> x.pass(0));
        Check.noValue("pass(100)", () -> x.pass(100));
        Check.noValue("pass(-1)", () -> x.pass(-1));
        x.takeRow(2, 0);
        x.takeRow(2, 2);
        x.deliver(2, 0, 9);
        Check.due("disputed", x.row(0, 1), 1);
        Check.due("many ticks at once", x.pass(99), 1);
        Check.due("a disputed one keeps its results", x.row(0, 4), 2);
    }

    /** Promise 44. */
    private static void audit() {
        ReviewTable x = Check.loaded(SIX + "rows 4 size 4;");
        Check.work(x, 0, 0, 10, 1, 12);
        Check.due("right at the edge", x.audit(0, 12), true);
        Check.trusts("both agree", x, 13, 13);
        Check.due("the result stays", x.row(0, 2), 10);
        Check.work(x, 1, 2, 10, 3, 12);
        Check.due("the result differs", x.audit(1, 13), false);
        Check.trusts("one agrees", x, 13, 13, 7, 13);
        Check.due("the result becomes it", x.row(1, 2), 13);
        Check.due("a strike", x.strikes(3, 2), 1);
        Check.work(x, 2, 0, 10, 4, 20, 5, 20);
        Check.due("wrong for the two", x.audit(2, 10), false);
        Check.trusts("the one left gains", x, 12, 13, 7, 13, 7, 7);
        Check.due("strike of the two by which it was finished", x.strikes(4, 5), 1);
        Check.due("none with the one left", x.strikes(0, 5), 0);
        Check.due("points stay", x.worker(4, 8), 4);
        Check.noState("audited already", () -> x.audit(0, 12));
        Check.noState("not finished", () -> x.audit(3, 12));
        Check.noWorker("audit(4,100)", () -> x.audit(4, 100));
        Check.noValue("audit(0,100)", () -> x.audit(0, 100));
        Check.noValue("audit(3,-1)", () -> x.audit(3, -1));
        ReviewTable y = Check.loaded("table tolerance 0 patience 9 least 0;worker a team 0 quota 1 trust 3;"
                + "worker b team 1 quota 1 trust 19;rows 2 size 1;");
        Check.work(y, 0, 0, 5, 1, 5);
        y.audit(0, 5);
        Check.trusts("not above 20", y, 6, 20);
        y.setTable(0, 9);
        Check.work(y, 1, 0, 5, 1, 14);
        y.audit(1, 99);
        Check.trusts("less by 4", y, 3, 16);
    }

    /** Promise 44: two strikes, and that they part a pair. */
    private static void strikes() {
        ReviewTable x = Check.loaded(SIX + "rows 4 size 4;");
        Check.work(x, 0, 0, 10, 1, 10);
        Check.work(x, 1, 1, 10, 0, 10);
        x.takeRow(1, 2);
        x.audit(0, 50);
        Check.due("one strike", x.refusal(0, 2), 0);
        x.audit(1, 50);
        Check.due("suspended by two wrong ones", x.refusal(0, 2), 1);
        x.pardon(0);
        Check.due("two strikes", x.refusal(0, 2), 6);
        Check.due("bar off tells that they were", x.bar(0, 1, false), true);
        Check.due("no strikes", x.strikes(0, 1), 0);
        Check.due("may meet again", x.refusal(0, 2), 0);
    }

    /** Promise 45. */
    private static void setAside() {
        ReviewTable x = Check.loaded(SIX + "rows 4 size 4;");
        x.takeRow(0, 0);
        x.takeRow(1, 0);
        x.deliver(1, 0, 7);
        Check.due("one in work", x.setAside(0), 1);
        Check.due("its result stays", x.row(0, 4), 1);
        Check.due("whose", x.taking(0, 0, 0), 1);
        Check.due("nobody loses trust", x.worker(0, 2), 10);
        Check.due("not late", x.worker(0, 7), 0);
        Check.due("not in work", x.worker(0, 3), 0);
        Check.due("it took it", x.row(0, 6), 3);
        x.takeRow(2, 1);
        x.takeRow(3, 1);
        Check.due("two in work", x.setAside(1), 2);
        Check.work(x, 2, 0, 1, 1, 9);
        Check.due("a disputed one", x.setAside(2), 0);
        Check.work(x, 3, 0, 1, 1, 1);
        Check.noState("a finished one", () -> x.setAside(3));
        Check.noState("one set aside", () -> x.setAside(0));
        Check.noWorker("setAside(4)", () -> x.setAside(4));
        Check.noState("its worker cannot deliver", () -> x.deliver(0, 0, 7));
    }

    /** Promise 46. */
    private static void pardon() {
        ReviewTable x = Check.loaded(HEAD + "worker a team 0 quota 1 trust 4;worker b team 0 quota 1 trust 5;");
        Check.due("pardon(0)", x.pardon(0), 4);
        Check.due("its trust", x.worker(0, 2), 5);
        Check.noState("pardon(0) again", () -> x.pardon(0));
        Check.noState("pardon(1)", () -> x.pardon(1));
        Check.noWorker("pardon(2)", () -> x.pardon(2));
        x.setTable(2, 19);
        Check.due("pardon(1)", x.pardon(1), 5);
        Check.due("its trust", x.worker(1, 2), 19);
    }

    /** Promise 47. */
    private static void bar() {
        ReviewTable x = Check.loaded(SIX + "rows 3 size 1;");
        x.takeRow(0, 0);
        x.takeRow(1, 0);
        Check.due("bar on", x.bar(1, 0, true), false);
        Check.due("takings stay", x.row(0, 4), 2);
        Check.due("bar on again", x.bar(0, 1, true), true);
        Check.due("bar off", x.bar(0, 1, false), true);
        Check.due("bar off again", x.bar(0, 1, false), false);
        Check.due("another pair", x.isBarred(0, 2), false);
        x.deliver(0, 0, 1);
        x.deliver(1, 0, 1);
        x.audit(0, 9);
        x.bar(0, 1, true);
        Check.due("strikes become 0", x.strikes(0, 1), 0);
        Check.due("barred", x.isBarred(0, 1), true);
        Check.noWorker("bar(6,6,true)", () -> x.bar(6, 6, true));
        Check.noWorker("bar(0,-1,true)", () -> x.bar(0, -1, true));
        Check.noValue("bar(3,3,true)", () -> x.bar(3, 3, true));
    }

    /** Promise 48. */
    private static void addRows() {
        ReviewTable x = Check.loaded(SIX + "rows 3 size 1;");
        Check.due("addRows(20,9)", x.addRows(20, 9), 3);
        Check.due("row(2,0)", x.row(2, 0), 1);
        Check.due("row(22,0)", x.row(22, 0), 9);
        Check.due("rows", x.property(1), 23);
        Check.noState("addRows(2,1)", () -> x.addRows(2, 1));
        Check.due("addRows(1,1)", x.addRows(1, 1), 23);
        Check.noState("addRows(1,1)", () -> x.addRows(1, 1));
        Check.noState("addRows(24,9)", () -> x.addRows(24, 9));
        Check.noValue("addRows(25,9)", () -> x.addRows(25, 9));
        Check.noValue("addRows(0,9)", () -> x.addRows(0, 9));
        Check.noValue("addRows(1,0)", () -> x.addRows(1, 0));
        Check.noValue("addRows(1,10)", () -> x.addRows(1, 10));
        Check.noValue("addRows(greatest int,1)", () -> x.addRows(Integer.MAX_VALUE, 1));
        x.undo();
        x.undo();
        x.takeRow(0, 2);
        x.addRows(1, 5);
        int[] want = {5, 0, -1, 0, 0, 2, 0};
        for (int i = 0; i < want.length; i++) {
            Check.due("new row(3," + i + ")", x.row(3, i), want[i]);
        }
        ReviewTable y = new ReviewTable();
        Check.due("24 at once", y.addRows(24, 1), 0);
    }

    /** Promise 49. */
    private static void setTable() {
        ReviewTable x = Check.loaded(SIX + "rows 3 size 1;");
        Check.work(x, 0, 0, 10, 1, 15);
        int[] most = {20, 50, 19};
        int[] least = {0, 1, 0};
        int[] first = {2, 5, 5};
        for (int i = 0; i < 3; i++) {
            int what = i;
            Check.due("setTable(" + i + ", most)", x.setTable(i, most[i]), first[i]);
            Check.due("property", x.property(3 + i), most[i]);
            Check.due("setTable(" + i + ", least)", x.setTable(i, least[i]), most[i]);
            Check.due("property", x.property(3 + i), least[i]);
            Check.noValue("setTable(" + i + ", too much)", () -> x.setTable(what, most[what] + 1));
            Check.noValue("setTable(" + i + ", too little)", () -> x.setTable(what, least[what] - 1));
        }
        Check.noValue("setTable(3,1)", () -> x.setTable(3, 1));
        Check.noValue("setTable(-1,1)", () -> x.setTable(-1, 1));
        x.setTable(0, 20);
        Check.due("no results are compared anew", x.row(0, 1), 1);
        int count = x.undoCount();
        Check.noValue("setTable(0,21)", () -> x.setTable(0, 21));
        Check.due("undoCount", x.undoCount(), count);
    }

    public static void main(String[] args) {
        take();
        takeRow();
        deliverTwo();
        deliverThree();
        pass();
        audit();
        strikes();
        setAside();
        pardon();
        bar();
        addRows();
        setTable();
        Check.finish("ChangesTest");
    }
}
