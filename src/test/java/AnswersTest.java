/** Promises 8 to 39: the calls that only ask. */
public final class AnswersTest {
    private static final String HEAD = Check.HEAD;
    private static final String FOUR = HEAD + "worker amos team 0 quota 2;worker bea team 1 quota 2 trust 12;"
            + "worker cy team 2 quota 1;worker dan team 0 quota 3;rows 2 size 4;rows 1 size 6;rows 1 size 9;";
    private static final String SIX = Check.SIX;

    /** Promise 8. */
    private static void property() {
        ReviewTable x = Check.loaded(FOUR);
        Check.work(x, 0, 0, 10, 1, 12);
        Check.work(x, 1, 0, 10, 1, 13);
        x.setAside(2);
        x.pass(7);
        x.audit(0, 10);
        int[] want = {4, 4, 7, 2, 5, 5, 1, 1, 1, 1, 1};
        for (int i = 0; i <= 10; i++) {
            Check.due("property(" + i + ")", x.property(i), want[i]);
        }
        Check.noValue("property(-1)", () -> x.property(-1));
        Check.noValue("property(11)", () -> x.property(11));
        Check.noValue("property(least int)", () -> x.property(Integer.MIN_VALUE));
    }

    /** Promise 9. */
    private static void worker() {
        ReviewTable x = Check.loaded(FOUR);
        Check.work(x, 0, 1, 50, 0, 50);
        Check.take(x, 1, 1);
        Check.take(x, 2, 1);
        x.pass(6);
        Check.take(x, 3, 1);
        int[] want = {1, 2, 11, 1, 4, 1, 1, 2, 4};
        for (int i = 0; i <= 8; i++) {
            Check.due("worker(1," + i + ")", x.worker(1, i), want[i]);
        }
        Check.noWorker("worker(4,0)", () -> x.worker(4, 0));
        Check.noWorker("worker(-1,9)", () -> x.worker(-1, 9));
        Check.noValue("worker(0,9)", () -> x.worker(0, 9));
        Check.noValue("worker(0,-1)", () -> x.worker(0, -1));
    }

    /** Promises 10 to 12. */
    private static void rowTakingFinishers() {
        ReviewTable x = Check.loaded(FOUR);
        Check.take(x, 0, 0, 1);
        x.pass(5);
        x.deliver(1, 0, 40);
        Check.due("taking(0,0,1)", x.taking(0, 0, 1), -1);
        Check.due("taking(0,0,2)", x.taking(0, 0, 2), 5);
        Check.due("taking(0,1,0)", x.taking(0, 1, 0), 1);
        Check.due("taking(0,1,1)", x.taking(0, 1, 1), 40);
        Check.due("taking(0,1,2)", x.taking(0, 1, 2), -1);
        Check.due("finishers(0)", x.finishers(0), 0);
        x.pass(1);
        Check.due("taking(0,0,0) moved up", x.taking(0, 0, 0), 1);
        Check.noWorker("taking(0,1,0)", () -> x.taking(0, 1, 0));
        int[] late = {4, 0, -1, 0, 1, 1, 3};
        for (int i = 0; i <= 6; i++) {
            Check.due("row(0," + i + ")", x.row(0, i), late[i]);
        }
        Check.work(x, 0, 2, 43);
        int[] disputed = {4, 1, -1, 0, 2, 1, 7};
        for (int i = 0; i <= 6; i++) {
            Check.due("disputed row(0," + i + ")", x.row(0, i), disputed[i]);
        }
        Check.work(x, 1, 1, 60, 2, 61);
        x.audit(1, 62);
        int[] finished = {4, 2, 60, 1, 2, 0, 6};
        for (int i = 0; i <= 6; i++) {
            Check.due("finished row(1," + i + ")", x.row(1, i), finished[i]);
        }
        Check.due("finishers(1)", x.finishers(1), 6);
        x.setAside(2);
        Check.due("row(2,1) set aside", x.row(2, 1), 3);
        Check.due("row(2,5) set aside", x.row(2, 5), 0);
        Check.due("finishers(2) set aside", x.finishers(2), 0);
        Check.noWorker("row(4,9)", () -> x.row(4, 9));
        Check.noValue("row(0,7)", () -> x.row(0, 7));
        Check.noValue("row(0,-1)", () -> x.row(0, -1));
        Check.noWorker("taking(-1,0,0)", () -> x.taking(-1, 0, 0));
        Check.noWorker("taking(0,-1,7)", () -> x.taking(0, -1, 7));
        Check.noWorker("taking(2,0,7)", () -> x.taking(2, 0, 7));
        Check.noValue("taking(0,0,3)", () -> x.taking(0, 0, 3));
        Check.noValue("taking(0,0,-1)", () -> x.taking(0, 0, -1));
        Check.noWorker("finishers(4)", () -> x.finishers(4));
    }

    /** Promise 13: each reason, and that the first one counts. */
    private static void refusal() {
        ReviewTable x = Check.loaded(FOUR + "bar bea cy;");
        Check.due("refusal(0,0)", x.refusal(0, 0), 0);
        Check.take(x, 0, 0);
        Check.due("took it, own team", x.refusal(0, 0), 4);
        Check.due("same team", x.refusal(3, 0), 5);
        Check.take(x, 0, 1);
        Check.due("no worker needed", x.refusal(0, 0), 3);
        Check.take(x, 1, 1);
        Check.due("quota before need", x.refusal(1, 0), 2);
        Check.due("may not meet", x.refusal(2, 1), 6);
        x.bar(0, 1, true);
        Check.due("may not meet", x.refusal(0, 1), 6);
        x.pass(6);
        Check.due("took it, gone", x.refusal(1, 1), 4);
        Check.due("nobody there any more", x.refusal(3, 0), 0);
        x.setTable(2, 11);
        Check.due("suspended", x.refusal(0, 0), 1);
        x.setTable(2, 9);
        Check.due("trust is the least", x.refusal(0, 0), 4);
        x.bar(0, 3, true);
        Check.take(x, 2, 0);
        Check.due("team before meeting", x.refusal(3, 2), 5);
        x.setAside(3);
        Check.due("set aside", x.refusal(1, 3), 3);
        Check.noWorker("refusal(4,0)", () -> x.refusal(4, 0));
        Check.noWorker("refusal(0,4)", () -> x.refusal(0, 4));
        Check.noWorker("refusal(-1,-1)", () -> x.refusal(-1, -1));
    }

    /** Promises 14 to 16. */
    private static void offersNextTakers() {
        ReviewTable x = Check.loaded(FOUR);
        Check.due("offers(0)", x.offers(0), 15);
        Check.due("takers(0)", x.takers(0), 15);
        Check.due("nextFor(0)", x.nextFor(0), 0);
        Check.take(x, 2, 1);
        Check.due("one with a taking first", x.nextFor(0), 2);
        Check.work(x, 3, 1, 10, 0, 20);
        Check.due("a disputed one before it", x.nextFor(2), 3);
        Check.due("not its own", x.nextFor(0), 2);
        Check.due("offers(0)", x.offers(0), 7);
        Check.due("offers(3)", x.offers(3), 7);
        Check.due("takers(3)", x.takers(3), 4);
        Check.take(x, 3, 2);
        Check.due("offers(2), quota full", x.offers(2), 0);
        Check.due("nextFor(2), quota full", x.nextFor(2), -1);
        Check.due("takers(3), no need", x.takers(3), 0);
        x.setTable(2, 19);
        Check.due("takers(0), all suspended", x.takers(0), 0);
        Check.noWorker("offers(4)", () -> x.offers(4));
        Check.noWorker("nextFor(-1)", () -> x.nextFor(-1));
        Check.noWorker("takers(4)", () -> x.takers(4));
        ReviewTable most = Check.loaded(HEAD + "worker a team 0 quota 1;rows 24 size 1;");
        Check.due("offers of 24 rows", most.offers(0), (1 << 24) - 1);
    }

    /** Promise 17. */
    private static void isStuck() {
        ReviewTable x = Check.loaded(HEAD + "worker a team 0 quota 1;worker b team 0 quota 1;worker c team 1 quota 1;rows 3 size 1;");
        Check.due("isStuck(0)", x.isStuck(0), false);
        Check.take(x, 0, 0);
        Check.take(x, 1, 2);
        Check.due("c at its quota does not count", x.isStuck(0), false);
        x.setTable(2, 19);
        Check.due("suspended ones do not count", x.isStuck(0), false);
        x.bar(0, 2, true);
        Check.due("nobody is left", x.isStuck(0), true);
        Check.due("b is left", x.isStuck(1), false);
        x.setAside(0);
        Check.due("set aside needs none", x.isStuck(0), false);
        Check.noWorker("isStuck(3)", () -> x.isStuck(3));
        ReviewTable none = new ReviewTable();
        none.addRows(1, 1);
        Check.due("no workers at all", none.isStuck(0), true);
        Check.due("lost", none.lost(), 1);
    }

    /** Promise 18. */
    private static void bestPair() {
        ReviewTable x = Check.loaded(FOUR);
        Check.due("bea, the most trusted, with the lowest", x.bestPair(0), 1);
        x.bar(0, 1, true);
        Check.due("amos is barred", x.bestPair(0), 8 + 2);
        x.bar(1, 2, true);
        Check.due("dan of the team of amos", x.bestPair(0), 8 + 3);
        x.bar(1, 3, true);
        Check.due("without bea", x.bestPair(0), 2);
        x.bar(0, 2, true);
        Check.due("cy and dan", x.bestPair(0), 16 + 3);
        Check.take(x, 1, 2);
        Check.due("cy at its quota", x.bestPair(0), -1);
        Check.due("row with a taking", x.bestPair(1), -1);
        x.setAside(3);
        Check.due("set aside", x.bestPair(3), -1);
        Check.noWorker("bestPair(4)", () -> x.bestPair(4));
        ReviewTable none = new ReviewTable();
        none.addRows(1, 1);
        Check.due("no workers", none.bestPair(0), -1);
    }

    /** Promise 19. */
    private static void mostTakings() {
        ReviewTable x = Check.loaded(FOUR);
        Check.due("four rows for four", x.mostTakings(), 4);
        x.setAside(0);
        x.setAside(1);
        Check.due("two rows for four", x.mostTakings(), 2);
        Check.take(x, 2, 0);
        Check.take(x, 3, 0);
        Check.due("bea and cy only", x.mostTakings(), 2);
        x.bar(0, 1, true);
        Check.due("cy only", x.mostTakings(), 1);
        x.setTable(2, 11);
        Check.due("all but bea suspended", x.mostTakings(), 0);
        ReviewTable y = Check.loaded(SIX + "rows 3 size 1;");
        Check.take(y, 0, 0);
        Check.take(y, 1, 0);
        for (int other = 2; other < 6; other++) {
            y.bar(0, other, true);
        }
        Check.due("two rows are left", y.mostTakings(), 2);
        y.take(1);
        Check.due("b took one of them", y.mostTakings(), 2);
    }

    /** Promises 20 to 23. */
    private static void pairs() {
        ReviewTable x = Check.loaded(SIX + "rows 9 size 1;bar c d;");
        Check.work(x, 0, 0, 10, 1, 12);
        Check.work(x, 1, 0, 10, 1, 13, 4, 30);
        Check.work(x, 2, 0, 10, 1, 10);
        Check.take(x, 3, 0, 1);
        x.deliver(0, 3, 50);
        Check.due("agreeing(0,1)", x.agreeing(0, 1), 2);
        Check.due("agreeing(1,0)", x.agreeing(1, 0), 2);
        Check.due("differing(0,1)", x.differing(0, 1), 1);
        Check.due("differing(4,1), set aside", x.differing(4, 1), 1);
        Check.due("agreeing(0,0)", x.agreeing(0, 0), 0);
        Check.due("differing(0,0)", x.differing(0, 0), 0);
        x.setTable(0, 1);
        Check.due("agreeing by the tolerance now", x.agreeing(0, 1), 1);
        Check.due("differing by the tolerance now", x.differing(0, 1), 2);
        x.audit(0, 80);
        Check.due("strikes(0,1)", x.strikes(0, 1), 1);
        Check.due("isBarred by one strike", x.isBarred(0, 1), false);
        x.audit(2, 80);
        Check.due("strikes(1,0)", x.strikes(1, 0), 2);
        Check.due("isBarred by two strikes", x.isBarred(1, 0), true);
        Check.due("strikes(0,0)", x.strikes(0, 0), 0);
        Check.due("isBarred(0,0)", x.isBarred(0, 0), false);
        Check.due("isBarred(2,3)", x.isBarred(2, 3), true);
        Check.due("isBarred(3,2)", x.isBarred(3, 2), true);
        Check.due("strikes(2,3)", x.strikes(2, 3), 0);
        Check.noWorker("strikes(0,6)", () -> x.strikes(0, 6));
        Check.noWorker("strikes(6,6)", () -> x.strikes(6, 6));
        Check.noWorker("isBarred(-1,0)", () -> x.isBarred(-1, 0));
        Check.noWorker("agreeing(0,-1)", () -> x.agreeing(0, -1));
        Check.noWorker("differing(6,0)", () -> x.differing(6, 0));
    }

    /** Promises 24 to 26. */
    private static void trust() {
        ReviewTable x = Check.loaded(SIX + "rows 9 size 1;");
        Check.due("accuracy without audits", x.accuracy(0), 0.0f);
        Check.work(x, 0, 0, 10, 1, 12);
        Check.work(x, 1, 0, 10, 2, 12);
        Check.work(x, 2, 0, 10, 3, 12);
        Check.work(x, 3, 0, 10, 4, 12);
        x.audit(0, 14);
        x.audit(1, 12);
        x.audit(2, 11);
        Check.due("accuracy(0)", x.accuracy(0), 2.0f / 3.0f);
        Check.due("accuracy(1)", x.accuracy(1), 1.0f);
        Check.due("accuracy(4)", x.accuracy(4), 0.0f);
        x.setTable(0, 0);
        Check.due("accuracy(0), tolerance 0", x.accuracy(0), 0.0f);
        Check.due("accuracy(2), tolerance 0", x.accuracy(2), 1.0f);
        Check.noWorker("accuracy(6)", () -> x.accuracy(6));
        ReviewTable y = Check.loaded(FOUR);
        Check.due("meanTrust()", y.meanTrust(), 10.5);
        Check.due("suspended()", y.suspended(), 0);
        y.setTable(2, 10);
        Check.due("suspended() at the least trust", y.suspended(), 0);
        y.setTable(2, 11);
        Check.due("suspended()", y.suspended(), 1 + 4 + 8);
        ReviewTable third = Check.loaded(HEAD + "worker a team 0 quota 1 trust 1;worker b team 0 quota 1 trust 0;worker c team 0 quota 1 trust 0;");
        Check.due("meanTrust() of three", third.meanTrust(), 1.0 / 3.0);
    }

    /** Promises 27 and 28. */
    private static void audits() {
        ReviewTable x = Check.loaded(SIX + "rows 2 size 3;rows 2 size 5;rows 1 size 1;");
        Check.due("risk of an open row", x.risk(0), -1);
        Check.due("nextAudit()", x.nextAudit(), -1);
        Check.work(x, 0, 0, 10, 1, 10);
        Check.due("risk(0)", x.risk(0), 11);
        Check.due("nextAudit()", x.nextAudit(), 0);
        Check.work(x, 3, 2, 10, 3, 10);
        Check.due("greater size first", x.nextAudit(), 3);
        Check.work(x, 2, 4, 10, 5, 10);
        Check.due("lowest of the same size", x.nextAudit(), 2);
        Check.work(x, 1, 0, 10, 1, 10);
        Check.due("risk(0) now", x.risk(0), 12);
        x.audit(2, 50);
        Check.due("risk(2) now", x.risk(2), 7);
        Check.due("an audited one does not count", x.nextAudit(), 3);
        Check.work(x, 4, 4, 1, 0, 1);
        Check.due("least risk before size", x.nextAudit(), 4);
        Check.due("the lesser of both", x.risk(4), 8);
        Check.noWorker("risk(5)", () -> x.risk(5));
    }

    /** Promises 29 and 30. */
    private static void times() {
        ReviewTable x = Check.loaded(FOUR);
        Check.due("nextDue()", x.nextDue(), -1);
        Check.take(x, 3, 0);
        x.pass(2);
        Check.take(x, 0, 1);
        Check.due("nextDue()", x.nextDue(), 5);
        int[][] late = {{0, 0}, {3, 0}, {4, 1}, {5, 1}, {6, 2}, {99, 2}};
        for (int[] pair : late) {
            Check.due("lateIn(" + pair[0] + ")", x.lateIn(pair[0]), pair[1]);
        }
        Check.due("lateIn changes nothing", x.property(2), 2);
        x.deliver(0, 3, 1);
        Check.due("nextDue()", x.nextDue(), 7);
        Check.due("lateIn(99), one delivered", x.lateIn(99), 1);
        Check.noValue("lateIn(-1)", () -> x.lateIn(-1));
        Check.noValue("lateIn(100)", () -> x.lateIn(100));
    }

    /** Promises 31 to 33. */
    private static void whatIf() {
        ReviewTable x = Check.loaded(SIX + "rows 3 size 1;");
        Check.take(x, 0, 0, 1);
        Check.due("first result", x.stateIf(0, 0, 99), 0);
        Check.due("no trust by a first result", x.trustIf(0, 0, 99, 0), 10);
        Check.due("finishing by a first result", x.finishing(0, 0), 0);
        x.deliver(1, 0, 1);
        Check.due("stateIf at the edge", x.stateIf(0, 0, 3), 2);
        Check.due("stateIf beyond it", x.stateIf(0, 0, 4), 1);
        Check.due("finishing at 0 to 3", x.finishing(0, 0), 4);
        Check.due("trustIf of itself", x.trustIf(0, 0, 0, 0), 11);
        Check.due("trustIf of the other", x.trustIf(0, 0, 0, 1), 11);
        Check.due("trustIf of one not there", x.trustIf(0, 0, 0, 2), 10);
        x.deliver(0, 0, 5);
        Check.take(x, 0, 2);
        Check.due("third agrees with both", x.stateIf(2, 0, 3), 2);
        Check.due("the one left agrees too", x.trustIf(2, 0, 3, 1), 10);
        Check.due("as near: the first taking", x.trustIf(2, 0, 3, 0), 11);
        Check.due("the one left does not agree", x.trustIf(2, 0, 7, 1), 7);
        Check.due("third agrees with none", x.stateIf(2, 0, 8), 3);
        Check.due("all three lose", x.trustIf(2, 0, 8, 0), 9);
        Check.due("all three lose", x.trustIf(2, 0, 8, 2), 9);
        Check.due("finishing at 0 to 7", x.finishing(2, 0), 8);
        Check.due("nothing changed", x.row(0, 1), 1);
        Check.due("nothing changed", x.taking(0, 2, 1), -1);
        Check.due("nothing changed", x.worker(2, 2), 10);
        Check.noWorker("stateIf(6,0,100)", () -> x.stateIf(6, 0, 100));
        Check.noWorker("stateIf(0,3,0)", () -> x.stateIf(0, 3, 0));
        Check.noValue("stateIf(3,0,100)", () -> x.stateIf(3, 0, 100));
        Check.noValue("stateIf(2,0,-1)", () -> x.stateIf(2, 0, -1));
        Check.noState("stateIf(0,0,1), delivered", () -> x.stateIf(0, 0, 1));
        Check.noState("stateIf(3,0,1), not taken", () -> x.stateIf(3, 0, 1));
        Check.noWorker("trustIf(2,0,100,6)", () -> x.trustIf(2, 0, 100, 6));
        Check.noWorker("trustIf(3,0,0,-1)", () -> x.trustIf(3, 0, 0, -1));
        Check.noValue("trustIf(3,0,100,0)", () -> x.trustIf(3, 0, 100, 0));
        Check.noState("trustIf(3,0,99,0)", () -> x.trustIf(3, 0, 99, 0));
        Check.noWorker("finishing(0,-1)", () -> x.finishing(0, -1));
        Check.noState("finishing(0,0)", () -> x.finishing(0, 0));
    }

    /** Promise 32: trust stops at 0 and 20 in what would be, too. */
    private static void trustStops() {
        ReviewTable x = Check.loaded("table tolerance 0 patience 9 least 0;worker a team 0 quota 1 trust 20;"
                + "worker b team 1 quota 1 trust 2;worker c team 2 quota 1 trust 0;rows 1 size 1;");
        Check.work(x, 0, 0, 5, 1, 9);
        Check.take(x, 0, 2);
        Check.due("not above 20", x.trustIf(2, 0, 5, 0), 20);
        Check.due("not below 0", x.trustIf(2, 0, 5, 1), 0);
        Check.due("not below 0", x.trustIf(2, 0, 6, 2), 0);
        x.deliver(2, 0, 5);
        Check.due("not above 20", x.worker(0, 2), 20);
        Check.due("not below 0", x.worker(1, 2), 0);
        Check.due("one more", x.worker(2, 2), 1);
    }

    /** Promises 34 to 39. */
    private static void sums() {
        ReviewTable x = Check.loaded(SIX + "rows 2 size 4;rows 2 size 5;rows 1 size 9;");
        Check.due("leader() of all alike", x.leader(), 0);
        Check.due("partner(0)", x.partner(0), -1);
        Check.work(x, 0, 1, 10, 2, 11);
        Check.work(x, 2, 2, 10, 3, 11);
        Check.work(x, 1, 4, 10, 5, 20);
        x.setAside(4);
        Check.due("finishedOf(4)", x.finishedOf(4), 1);
        Check.due("finishedOf(5)", x.finishedOf(5), 1);
        Check.due("finishedOf(9)", x.finishedOf(9), 0);
        Check.due("left(), disputed and open", x.left(), 4 + 5);
        Check.due("lost()", x.lost(), 16);
        Check.due("leader()", x.leader(), 2);
        int[] places = {4, 3, 1, 2, 4, 4};
        for (int i = 0; i < 6; i++) {
            Check.due("place(" + i + ")", x.place(i), places[i]);
        }
        Check.due("partner(2), the lowest", x.partner(2), 1);
        Check.due("partner(3)", x.partner(3), 2);
        Check.due("partner(4), only differing", x.partner(4), -1);
        Check.work(x, 3, 2, 60, 3, 60);
        Check.due("partner(2), the most", x.partner(2), 3);
        Check.take(x, 1, 0);
        x.pass(6);
        for (int other = 0; other < 4; other++) {
            x.bar(4, other, true);
        }
        Check.due("lost(), one is stuck", x.lost(), 16 + 2);
        Check.due("left(), stuck ones count", x.left(), 4);
        Check.noValue("finishedOf(0)", () -> x.finishedOf(0));
        Check.noValue("finishedOf(10)", () -> x.finishedOf(10));
        Check.noWorker("place(6)", () -> x.place(6));
        Check.noWorker("partner(-1)", () -> x.partner(-1));
    }

    public static void main(String[] args) {
        property();
        worker();
        rowTakingFinishers();
        refusal();
        offersNextTakers();
        isStuck();
        bestPair();
        mostTakings();
        pairs();
        trust();
        audits();
        times();
        whatIf();
        trustStops();
        sums();
        Check.finish("AnswersTest");
    }
}
