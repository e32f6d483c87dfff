/** Promises 8 to 49 at their limits: each argument wrong by itself, a full table, and rows that are there no more. */
public final class LimitsTest {
    private static final String HEAD = Check.HEAD;
    private static final String SIX = Check.SIX;
    private static final int[] NOBODY = {-1, 6, 7, 31, 32, Integer.MAX_VALUE, Integer.MIN_VALUE};
    private static final int[] NO_ROW = {-1, 2, 3, 24, 32, Integer.MAX_VALUE, Integer.MIN_VALUE};
    private static final int[] NO_RESULT = {-1, 100, 101, Integer.MAX_VALUE, Integer.MIN_VALUE};

    private static void wrongWorkers(ReviewTable x) {
        for (int w : NOBODY) {
            Check.noWorker("worker(" + w + ",0)", () -> x.worker(w, 0));
            Check.noWorker("refusal(" + w + ",0)", () -> x.refusal(w, 0));
            Check.noWorker("offers(" + w + ")", () -> x.offers(w));
            Check.noWorker("nextFor(" + w + ")", () -> x.nextFor(w));
            Check.noWorker("strikes(" + w + ",0)", () -> x.strikes(w, 0));
            Check.noWorker("strikes(0," + w + ")", () -> x.strikes(0, w));
            Check.noWorker("isBarred(" + w + ",0)", () -> x.isBarred(w, 0));
            Check.noWorker("isBarred(0," + w + ")", () -> x.isBarred(0, w));
            Check.noWorker("agreeing(" + w + ",0)", () -> x.agreeing(w, 0));
            Check.noWorker("agreeing(0," + w + ")", () -> x.agreeing(0, w));
            Check.noWorker("agreeing(" + w + "," + w + ")", () -> x.agreeing(w, w));
            Check.noWorker("differing(" + w + ",0)", () -> x.differing(w, 0));
            Check.noWorker("differing(0," + w + ")", () -> x.differing(0, w));
            Check.noWorker("accuracy(" + w + ")", () -> x.accuracy(w));
            Check.noWorker("stateIf(" + w + ",0,0)", () -> x.stateIf(w, 0, 0));
            Check.noWorker("trustIf(" + w + ",0,0,0)", () -> x.trustIf(w, 0, 0, 0));
            Check.noWorker("trustIf(0,0,0," + w + ")", () -> x.trustIf(0, 0, 0, w));
            Check.noWorker("finishing(" + w + ",0)", () -> x.finishing(w, 0));
            Check.noWorker("place(" + w + ")", () -> x.place(w));
            Check.noWorker("partner(" + w + ")", () -> x.partner(w));
            Check.noWorker("take(" + w + ")", () -> x.take(w));
            Check.noWorker("takeRow(" + w + ",1)", () -> x.takeRow(w, 1));
            Check.noWorker("deliver(" + w + ",0,0)", () -> x.deliver(w, 0, 0));
            Check.noWorker("pardon(" + w + ")", () -> x.pardon(w));
            Check.noWorker("bar(" + w + ",0,true)", () -> x.bar(w, 0, true));
            Check.noWorker("bar(0," + w + ",true)", () -> x.bar(0, w, true));
        }
    }

    private static void wrongRows(ReviewTable x) {
        for (int r : NO_ROW) {
            Check.noWorker("row(" + r + ",0)", () -> x.row(r, 0));
            Check.noWorker("taking(" + r + ",0,0)", () -> x.taking(r, 0, 0));
            Check.noWorker("taking(0," + r + ",0)", () -> x.taking(0, r, 0));
            Check.noWorker("finishers(" + r + ")", () -> x.finishers(r));
            Check.noWorker("refusal(0," + r + ")", () -> x.refusal(0, r));
            Check.noWorker("takers(" + r + ")", () -> x.takers(r));
            Check.noWorker("isStuck(" + r + ")", () -> x.isStuck(r));
            Check.noWorker("bestPair(" + r + ")", () -> x.bestPair(r));
            Check.noWorker("risk(" + r + ")", () -> x.risk(r));
            Check.noWorker("stateIf(0," + r + ",0)", () -> x.stateIf(0, r, 0));
            Check.noWorker("trustIf(0," + r + ",0,0)", () -> x.trustIf(0, r, 0, 0));
            Check.noWorker("finishing(0," + r + ")", () -> x.finishing(0, r));
            Check.noWorker("takeRow(0," + r + ")", () -> x.takeRow(0, r));
            Check.noWorker("deliver(0," + r + ",0)", () -> x.deliver(0, r, 0));
            Check.noWorker("audit(" + r + ",0)", () -> x.audit(r, 0));
            Check.noWorker("setAside(" + r + ")", () -> x.setAside(r));
            Check.noWorker("writeRow(" + r + ")", () -> x.writeRow(r));
        }
        for (int r : NO_RESULT) {
            Check.noValue("stateIf(0,0," + r + ")", () -> x.stateIf(0, 0, r));
            Check.noValue("trustIf(0,0," + r + ",0)", () -> x.trustIf(0, 0, r, 0));
            Check.noValue("deliver(0,0," + r + ")", () -> x.deliver(0, 0, r));
            Check.noValue("audit(0," + r + ")", () -> x.audit(0, r));
            Check.noValue("lateIn(" + r + ")", () -> x.lateIn(r));
            Check.noValue("pass(" + r + ")", () -> x.pass(r));
            Check.noValue("finishedOf(" + r + ")", () -> x.finishedOf(r));
            Check.noValue("property(" + r + ")", () -> x.property(r));
            Check.noValue("worker(0," + r + ")", () -> x.worker(0, r));
            Check.noValue("row(0," + r + ")", () -> x.row(0, r));
            Check.noValue("taking(0,0," + r + ")", () -> x.taking(0, 0, r));
        }
    }

    /** Each argument wrong, in calls that would go through without it; nothing changes by them. */
    private static void wrongArguments() {
        ReviewTable x = Check.loaded(SIX + "rows 2 size 1;");
        x.takeRow(0, 0);
        wrongWorkers(x);
        ReviewTable y = Check.loaded(SIX + "rows 2 size 1;");
        y.takeRow(0, 0);
        wrongRows(y);
        Check.due("undoCount", x.undoCount() + y.undoCount(), 4);
    }

    /** Results, sizes and numbers at the ends of their ranges. */
    private static void ends() {
        ReviewTable x = Check.loaded(SIX + "rows 1 size 1;rows 1 size 9;");
        x.takeRow(0, 0);
        x.takeRow(1, 0);
        x.deliver(0, 0, 99);
        Check.due("finishing up to 99", x.finishing(1, 0), 3);
        Check.due("stateIf(1,0,99)", x.stateIf(1, 0, 99), 2);
        Check.due("stateIf(1,0,0)", x.stateIf(1, 0, 0), 1);
        Check.due("trustIf(1,0,0,1)", x.trustIf(1, 0, 0, 1), 10);
        Check.due("trustIf(1,0,99,1)", x.trustIf(1, 0, 99, 1), 11);
        Check.due("deliver(1,0,99)", x.deliver(1, 0, 99), 2);
        Check.work(x, 1, 0, 0, 1, 0);
        Check.due("finishedOf(1)", x.finishedOf(1), 1);
        Check.due("finishedOf(9)", x.finishedOf(9), 1);
        Check.due("audit(0,99)", x.audit(0, 99), true);
        Check.due("audit(1,0)", x.audit(1, 0), true);
        Check.due("accuracy(0)", x.accuracy(0), 1.0f);
        Check.due("property(10)", x.property(10), 2);
        Check.due("pass(99)", x.pass(99), 0);
        Check.due("lateIn(99)", x.lateIn(99), 0);
    }

    /** Row 0 and worker 0 count as all others do. */
    private static void theFirstOnes() {
        ReviewTable x = Check.loaded(SIX + "rows 2 size 5;");
        Check.due("left()", x.left(), 10);
        Check.work(x, 0, 0, 7, 1, 7);
        Check.due("place(2) behind both", x.place(2), 3);
        Check.due("partner(1)", x.partner(1), 0);
        Check.due("partner(0)", x.partner(0), 1);
        Check.due("left()", x.left(), 5);
        x.setAside(1);
        Check.due("left()", x.left(), 0);
        Check.due("lost()", x.lost(), 2);
        ReviewTable y = Check.loaded(HEAD + "worker a team 0 quota 1;worker b team 1 quota 1;worker c team 1 quota 1;rows 1 size 5;");
        y.takeRow(1, 0);
        Check.due("the first worker is left", y.isStuck(0), false);
        Check.due("lost()", y.lost(), 0);
        ReviewTable z = Check.loaded(HEAD + "worker a team 0 quota 1;rows 1 size 5;");
        z.takeRow(0, 0);
        Check.due("only the first one there, and it took it", z.isStuck(0), true);
    }

    /** Only an open row without takings has a best pair. */
    private static void bestPairOnlyOfOpenRows() {
        ReviewTable x = Check.loaded(SIX + "rows 2 size 5;");
        x.takeRow(0, 0);
        Check.due("an open row with a taking", x.bestPair(0), -1);
        x.pass(6);
        Check.due("its taking is gone", x.bestPair(0), 8 + 2);
        x.takeRow(1, 0);
        x.setAside(0);
        Check.due("one set aside without takings", x.bestPair(0), -1);
    }

    /** Every question of a table with 6 workers and 24 rows. */
    private static void fullTable() {
        ReviewTable x = Check.loaded(SIX + "rows 24 size 9;");
        for (int i = 0; i < 5; i++) {
            x.takeRow(0, i + 19);
            x.takeRow(5, i + 19);
        }
        Check.due("nextDue()", x.nextDue(), 5);
        Check.due("lateIn(6)", x.lateIn(6), 10);
        for (int i = 0; i < 5; i++) {
            x.deliver(0, i + 19, 50);
            x.deliver(5, i + 19, 50 + i);
        }
        Check.due("property(8)", x.property(8), 3);
        Check.due("property(7)", x.property(7), 2);
        Check.due("agreeing(5,0)", x.agreeing(5, 0), 3);
        Check.due("differing(0,5)", x.differing(0, 5), 2);
        Check.due("left()", x.left(), 21 * 9);
        Check.due("finishedOf(9)", x.finishedOf(9), 3);
        Check.due("nextAudit()", x.nextAudit(), 19);
        Check.due("leader()", x.leader(), 0);
        Check.due("place(5)", x.place(5), 1);
        Check.due("place(4)", x.place(4), 3);
        Check.due("partner(5)", x.partner(5), 0);
        Check.due("suspended()", x.suspended(), 0);
        Check.due("meanTrust()", x.meanTrust(), 11.0);
        Check.due("accuracy(5)", x.accuracy(5), 0.0f);
        Check.due("mostTakings()", x.mostTakings(), 6);
        Check.due("lost()", x.lost(), 0);
        Check.due("nextFor(1)", x.nextFor(1), 22);
        Check.due("offers(5)", x.offers(5), (1 << 19) - 1);
        Check.due("takers(23)", x.takers(23), 30);
        Check.due("takers(0)", x.takers(0), 63);
        Check.due("isStuck(23)", x.isStuck(23), false);
        Check.due("bestPair(0)", x.bestPair(0), 5);
        Check.due("pass(1)", x.pass(1), 0);
        Check.due("bar(4,5,true)", x.bar(4, 5, true), false);
        Check.due("setAside(23)", x.setAside(23), 0);
        Check.due("lost()", x.lost(), 1 << 23);
        Check.due("writeRows()", Check.rowsText(x), "o o o o o o o o o o o o o o o o o o o f50 f50 f50 d a");
        Check.put(x, "zzz");
        Check.due("find()", x.find(), -1);
        Check.put(x, "f");
        Check.due("find()", x.find(), 5);
    }

    /** Rows that undo() took away count nowhere. */
    private static void rowsOfBefore() {
        ReviewTable x = Check.loaded(SIX + "rows 1 size 1;");
        x.addRows(2, 2);
        x.takeRow(0, 1);
        x.takeRow(1, 2);
        Check.due("nextDue()", x.nextDue(), 5);
        Check.due("left()", x.left(), 5);
        x.undo();
        x.undo();
        x.undo();
        Check.due("rows", x.property(1), 1);
        Check.due("nextDue()", x.nextDue(), -1);
        Check.due("left()", x.left(), 1);
        x.addRows(1, 3);
        Check.due("a new row has no takings", x.row(1, 4), 0);
        Check.due("nobody took it", x.row(1, 6), 0);
    }

    /** Takings that are gone count nowhere, and a row may have three. */
    private static void takingsOfBefore() {
        ReviewTable x = Check.loaded(SIX + "rows 1 size 1;");
        x.takeRow(0, 0);
        x.takeRow(1, 0);
        Check.due("pass(6)", x.pass(6), 2);
        Check.due("nextDue()", x.nextDue(), -1);
        Check.due("lateIn(99)", x.lateIn(99), 0);
        Check.work(x, 0, 2, 10, 3, 20);
        x.takeRow(4, 0);
        Check.due("nextDue() of the third", x.nextDue(), 11);
        Check.due("lateIn(6) of the third", x.lateIn(6), 1);
        Check.due("setAside(0)", x.setAside(0), 1);
        Check.due("nextDue()", x.nextDue(), -1);
        Check.due("lateIn(99)", x.lateIn(99), 0);
        Check.due("property(2)", x.property(2), 6);
    }

    /** Rows that a smaller table does not have count nowhere, though they were there before. */
    private static void rowsOfAnotherTable() {
        ReviewTable x = Check.loaded(SIX + "rows 1 size 1;");
        x.keep(0);
        x.addRows(2, 1);
        Check.work(x, 2, 0, 9, 1, 9);
        x.takeRow(0, 1);
        x.restore(0);
        Check.due("finishedOf(1)", x.finishedOf(1), 0);
        Check.due("left()", x.left(), 1);
        Check.due("nextDue()", x.nextDue(), -1);
        Check.due("lateIn(99)", x.lateIn(99), 0);
        Check.due("agreeing(0,1)", x.agreeing(0, 1), 0);
        Check.due("nextAudit()", x.nextAudit(), -1);
        Check.due("offers(2)", x.offers(2), 1);
        Check.due("property(8)", x.property(8), 0);
        Check.due("mostTakings()", x.mostTakings(), 1);
        Check.due("pass(99)", x.pass(99), 0);
        Check.due("worker(0,7)", x.worker(0, 7), 0);
        Check.noWorker("row(1,0)", () -> x.row(1, 0));
        Check.load(x, HEAD + "worker a team 0 quota 5;rows 1 size 1;");
        Check.due("place(0)", x.place(0), 1);
        Check.due("takers(0)", x.takers(0), 1);
        Check.due("bestPair(0)", x.bestPair(0), -1);
        x.takeRow(0, 0);
        Check.due("isStuck(0)", x.isStuck(0), true);
        Check.due("mostTakings()", x.mostTakings(), 0);
        Check.noWorker("worker(1,0)", () -> x.worker(1, 0));
        Check.put(x, "b");
        Check.due("find()", x.find(), -1);
    }

    /** As many statements as the buffer can hold. */
    private static void longText() {
        StringBuilder text = new StringBuilder(SIX);
        while (text.length() + 13 <= 500 && text.length() < SIX.length() + 13 * 20) {
            text.append("rows 1size 1;");
        }
        ReviewTable x = Check.loaded(text.toString());
        Check.due("rows", x.property(1), (text.length() - SIX.length()) / 13);
        while (text.length() < 500) {
            text.append(' ');
        }
        Check.due("load", Check.load(x, text.toString()), 6);
        Check.due("load with the last byte wrong", Check.load(x, text.substring(0, 499) + "x"), -4);
        Check.due("errorPosition()", x.errorPosition(), 499);
        Check.due("load of a word of 500 letters", Check.load(x, text.toString().replaceAll("(?s).", "a")), -4);
        Check.due("errorPosition()", x.errorPosition(), 0);
        Check.due("load of a number of many digits", Check.load(x, "table tolerance " + text.toString().replaceAll("(?s).", "0").substring(16)), -4);
        Check.due("errorCode(): the end, behind a zero", x.errorCode(), 1);
        Check.due("errorPosition()", x.errorPosition(), 500);
    }

    public static void main(String[] args) {
        wrongArguments();
        ends();
        theFirstOnes();
        bestPairOnlyOfOpenRows();
        fullTable();
        rowsOfBefore();
        takingsOfBefore();
        rowsOfAnotherTable();
        longText();
        Check.finish("LimitsTest");
    }
}
