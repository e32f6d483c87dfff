import java.util.ArrayList;
import java.util.List;
import java.util.NoSuchElementException;

/** The edges that sections 3 and 4 and promises 40 to 57 name: one test for each sentence, which stands above it. */
public final class ChangeBoundaryTest {
    private static final String HEAD = Check.HEAD;
    private static final String SIX = Check.SIX;
    private static final int LEAST = Integer.MIN_VALUE;
    private static final int MOST = Integer.MAX_VALUE;

    interface Step {
        void in(ReviewTable x);
    }

    /** A loaded table of some workers with teams 0, 1, 2 .., quota 5 and these trusts, and ten rows of size 7. */
    private static ReviewTable table(int tolerance, int least, int... trusts) {
        StringBuilder text = new StringBuilder("table tolerance ").append(tolerance).append(" patience 5 least ")
                .append(least).append(';');
        for (int i = 0; i < trusts.length; i++) {
            text.append("worker ").append((char) ('a' + i)).append(" team ").append(i).append(" quota 5 trust ")
                    .append(trusts[i]).append(';');
        }
        return Check.loaded(text.append("rows 10 size 7;").toString());
    }

    // ---- takings, promises 40 and 41 --------------------------------------------------------

    /** take(): "if it can take no row": its quota is full, it is suspended, there is no row, or none that needs it. */
    private static void takeNone() {
        ReviewTable x = table(2, 5, 10, 4);
        for (int i = 0; i < 5; i++) {
            Check.due("take(0)", x.take(0), i);
        }
        Check.noState("take(0), quota full", () -> x.take(0));
        Check.noState("take(1), suspended", () -> x.take(1));
        Check.due("nextFor(0)", x.nextFor(0), -1);
        x.deliver(0, 4, 0);
        Check.due("one is delivered", x.take(0), 5);
        ReviewTable empty = Check.loaded(SIX);
        Check.noState("take(5), no rows", () -> empty.take(5));
        empty.addRows(1, 1);
        Check.due("take(5)", empty.take(5), 0);
        Check.noState("take(5), it took it", () -> empty.take(5));
        int[] nobody = {-1, 6, LEAST, MOST};
        for (int w : nobody) {
            Check.noWorker("take(" + w + ")", () -> empty.take(w));
        }
    }

    /** take(): "a disputed one, or else one that has a taking, or else another one, the lowest one of several". */
    private static void takeByKinds() {
        ReviewTable x = table(0, 0, 10, 10, 10, 10);
        Check.take(x, 8, 0);
        Check.take(x, 9, 0);
        Check.work(x, 4, 0, 0, 1, 9);
        Check.work(x, 5, 0, 0, 1, 9);
        int[] want = {4, 5, 8, 9, 0};
        for (int row : want) {
            Check.due("nextFor(2)", x.nextFor(2), row);
            Check.due("take(2)", x.take(2), row);
        }
        Check.noState("its quota is full", () -> x.take(2));
        Check.due("the other one of the first row", x.take(3), 0);
        Check.due("another one", x.take(3), 1);
    }

    /** takeRow(): "if it cannot take it": each of the six reasons. */
    private static void takeRowRefused() {
        ReviewTable x = Check.loaded(HEAD + "worker a team 0 quota 1;worker b team 0 quota 5;worker c team 1 quota 5;"
                + "worker d team 2 quota 5 trust 4;bar a c;rows 3 size 1;");
        x.takeRow(0, 0);
        Check.noState("1 suspended", () -> x.takeRow(3, 1));
        Check.noState("2 quota", () -> x.takeRow(0, 1));
        Check.noState("5 team", () -> x.takeRow(1, 0));
        Check.noState("6 may not meet", () -> x.takeRow(2, 0));
        x.pass(6);
        Check.noState("4 took it, gone", () -> x.takeRow(0, 0));
        Check.due("the others can now", x.takeRow(1, 0), 11);
        x.takeRow(2, 0);
        x.pardon(3);
        Check.noState("3 no worker needed", () -> x.takeRow(3, 0));
        Check.due("pardoned", x.takeRow(3, 1), 11);
    }

    /** "A taking is due at the time at which it was made, and the patience of the table": 1 and 50, now and late. */
    private static void dueTimes() {
        ReviewTable x = table(0, 0, 10, 10, 10);
        x.setTable(1, 1);
        Check.due("time 0, patience 1", x.takeRow(0, 0), 1);
        x.setTable(1, 50);
        Check.due("time 0, patience 50", x.takeRow(1, 0), 50);
        x.pass(99);
        Check.due("time 99, patience 50", x.takeRow(0, 1), 149);
        x.setTable(1, 1);
        Check.due("time 99, patience 1", x.takeRow(1, 1), 100);
        Check.due("the other keeps its time", x.taking(1, 0, 2), 149);
        x.pass(1);
        Check.due("in work at its time", x.deliver(1, 1, 0), 0);
    }

    /** "If several exceptions apply, the one that is named first in the method's throws clause is thrown." */
    private static void orderOfExceptions() {
        ReviewTable x = table(2, 5, 10, 10, 4);
        Check.noWorker("takeRow: worker and row", () -> x.takeRow(3, 10));
        Check.noWorker("takeRow: row of a suspended one", () -> x.takeRow(2, 10));
        Check.noWorker("deliver: worker, result and state", () -> x.deliver(3, 0, 100));
        Check.noWorker("deliver: row, result and state", () -> x.deliver(0, 10, -1));
        Check.noValue("deliver: result and state", () -> x.deliver(0, 0, 100));
        Check.noState("deliver: state", () -> x.deliver(0, 0, 99));
        Check.noWorker("audit: row and number", () -> x.audit(10, 100));
        Check.noValue("audit: number and state", () -> x.audit(0, 100));
        Check.noState("audit: state", () -> x.audit(0, 99));
        Check.noWorker("bar: nobody, both the same", () -> x.bar(3, 3, true));
        Check.noWorker("bar: nobody, both the same", () -> x.bar(-1, -1, false));
        Check.noValue("bar: both the same", () -> x.bar(2, 2, false));
        Check.noValue("addRows: many, and no room", () -> x.addRows(25, 1));
        Check.noValue("addRows: size, and no room", () -> x.addRows(24, 10));
        Check.noState("addRows: no room", () -> x.addRows(24, 9));
        Check.noWorker("restore: no slot", () -> x.restore(2));
        Check.noState("restore: nothing kept", () -> x.restore(1));
        ReviewTable none = new ReviewTable();
        Check.noWorker("takeRow(0,0) of nothing", () -> none.takeRow(0, 0));
        Check.noWorker("deliver(0,0,100) of nothing", () -> none.deliver(0, 0, 100));
        Check.noWorker("audit(0,100) of nothing", () -> none.audit(0, 100));
        Check.noWorker("setAside(0) of nothing", () -> none.setAside(0));
        Check.noWorker("pardon(0) of nothing", () -> none.pardon(0));
        Check.noWorker("bar(0,0,true) of nothing", () -> none.bar(0, 0, true));
        Check.noWorker("writeRow(0) of nothing", () -> none.writeRow(0));
    }

    // ---- results, promise 42 ----------------------------------------------------------------

    /** deliver(): "0 to 99". */
    private static void deliverRange() {
        ReviewTable x = table(0, 0, 10, 10);
        Check.take(x, 0, 0, 1);
        int[] beyond = {-1, 100, LEAST, MOST};
        for (int result : beyond) {
            Check.noValue("deliver(0,0," + result + ")", () -> x.deliver(0, 0, result));
        }
        Check.due("deliver 0", x.deliver(0, 0, 0), 0);
        Check.due("deliver 99", x.deliver(1, 0, 99), 1);
        Check.due("the first", x.taking(0, 0, 1), 0);
        Check.due("the second", x.taking(0, 1, 1), 99);
    }

    /** "at that time it can still be delivered", and not one tick later. */
    private static void lastMoment() {
        ReviewTable x = table(0, 0, 10, 10);
        x.takeRow(0, 0);
        x.pass(5);
        Check.due("at its time", x.deliver(0, 0, 7), 0);
        x.takeRow(0, 1);
        x.pass(6);
        Check.noState("behind it", () -> x.deliver(0, 1, 7));
        Check.due("results", x.worker(0, 5), 1);
        Check.due("late", x.worker(0, 7), 1);
    }

    /** "its result is that of the worker with the greater trust, of the first taking if both have the same". */
    private static void resultOfTwo() {
        int[][] cases = {{10, 10, 50}, {11, 10, 50}, {10, 11, 52}, {0, 0, 50}, {0, 1, 52}, {20, 20, 50}, {19, 20, 52}, {20, 19, 50}};
        for (int[] one : cases) {
            for (int order = 0; order < 2; order++) {
                ReviewTable x = table(2, 0, one[0], one[1]);
                Check.take(x, 0, 0, 1);
                x.deliver(order, 0, order == 0 ? 50 : 52);
                Check.due("finished", x.deliver(1 - order, 0, order == 0 ? 52 : 50), 2);
                Check.due("trusts " + one[0] + " and " + one[1], x.row(0, 2), one[2]);
                Check.trusts("then", x, Math.min(20, one[0] + 1), Math.min(20, one[1] + 1));
                Check.due("points", x.worker(0, 8), 7);
                Check.due("points", x.worker(1, 8), 7);
            }
        }
    }

    /** The trust that counts is that at the time of the comparison, not that at the time of the taking. */
    private static void trustOfNow() {
        ReviewTable x = table(2, 0, 10, 10, 10);
        Check.take(x, 0, 0, 1);
        x.deliver(0, 0, 50);
        Check.work(x, 1, 1, 5, 2, 5);
        Check.due("finished", x.deliver(1, 0, 52), 2);
        Check.due("b has more now", x.row(0, 2), 52);
    }

    /** "Otherwise the row is disputed": nobody gains or loses anything by that. */
    private static void disputed() {
        ReviewTable x = table(2, 0, 0, 20);
        Check.work(x, 0, 0, 50);
        x.takeRow(1, 0);
        Check.due("beyond the tolerance", x.deliver(1, 0, 53), 1);
        Check.trusts("as before", x, 0, 20);
        Check.due("no points", x.worker(1, 8), 0);
        Check.due("not finished by it", x.worker(1, 6), 0);
    }

    /** "if it agrees with neither of the others, the row is set aside, and the trust of all three gets less by 1". */
    private static void thirdAgreesWithNeither() {
        int[] thirds = {0, 7, 13, 17, 23, 99};
        for (int third : thirds) {
            ReviewTable x = table(2, 0, 0, 1, 20);
            Check.work(x, 0, 0, 10, 1, 20);
            x.takeRow(2, 0);
            Check.due("third result " + third, x.deliver(2, 0, third), 3);
            Check.trusts("each one less, not below 0", x, 0, 0, 19);
            Check.due("no result", x.row(0, 2), -1);
            Check.due("no points", x.worker(2, 8), 0);
            Check.due("three results stay", x.taking(0, 2, 1), third);
        }
    }

    /** "finished by the third one and the nearer one of the others, the first one if both are as near". */
    private static void nearerOne() {
        int[][] cases = {{10, 20, 12, 5}, {10, 20, 18, 6}, {10, 14, 12, 5}, {10, 13, 11, 5}, {10, 13, 12, 6}, {14, 10, 12, 5},
            {10, 15, 8, 5}, {0, 99, 0, 5}, {0, 99, 99, 6}, {99, 0, 97, 5}};
        for (int[] one : cases) {
            ReviewTable x = table(2, 0, 10, 10, 10);
            Check.work(x, 0, 0, one[0], 1, one[1], 2, one[2]);
            Check.due(one[0] + ", " + one[1] + ", " + one[2], x.finishers(0), one[3]);
        }
    }

    /** The first one is that of the first taking, though it was delivered last. */
    private static void firstIsTheFirstTaking() {
        ReviewTable x = table(2, 0, 10, 10, 10);
        Check.take(x, 0, 0, 1);
        x.deliver(1, 0, 14);
        x.deliver(0, 0, 10);
        Check.work(x, 0, 2, 12);
        Check.due("as near", x.finishers(0), 5);
        ReviewTable y = table(2, 0, 10, 10, 10, 10);
        Check.take(y, 0, 3, 1);
        y.deliver(1, 0, 14);
        y.pass(6);
        Check.work(y, 0, 0, 10, 2, 12);
        Check.due("the second moved up", y.finishers(0), 6);
    }

    /** "its result is that of the worker with the greater trust of these two, of the earlier taking if both have the same". */
    private static void resultOfThree() {
        int[][] cases = {{10, 20, 10, 12, 10}, {10, 20, 11, 12, 12}, {9, 20, 10, 12, 12}, {11, 0, 10, 12, 10}};
        for (int[] one : cases) {
            ReviewTable x = table(2, 0, one[0], one[1], one[2]);
            Check.work(x, 0, 0, 10, 1, 50, 2, one[3]);
            Check.due("by the first: trusts " + one[0] + " and " + one[2], x.row(0, 2), one[4]);
            ReviewTable y = table(2, 0, one[1], one[0], one[2]);
            Check.work(y, 0, 0, 50, 1, 10, 2, one[3]);
            Check.due("by the second: trusts " + one[0] + " and " + one[2], y.row(0, 2), one[4]);
        }
    }

    /** "that of the one that is left gets less by 3, unless its result agrees with the third one". */
    private static void theOneThatIsLeft() {
        int[][] cases = {{12, 15, 14, 0}, {11, 15, 14, -3}, {10, 15, 14, -3}, {16, 13, 14, 0}, {17, 13, 14, -3}};
        for (int[] one : cases) {
            ReviewTable x = table(2, 0, 10, 10, 10);
            Check.work(x, 0, 0, one[0], 1, one[1], 2, one[2]);
            Check.due("finished", x.row(0, 1), 2);
            Check.trusts("the first, " + one[0] + ", is left", x, 10 + one[3], 11, 11);
            ReviewTable y = table(2, 0, 10, 10, 10);
            Check.work(y, 0, 0, one[1], 1, one[0], 2, one[2]);
            Check.trusts("the second, " + one[0] + ", is left", y, 11, 10 + one[3], 11);
            Check.due("no points", y.worker(1, 8), 0);
            Check.due("not finished by it", y.worker(1, 6), 0);
            Check.due("one result", y.worker(1, 5), 1);
        }
    }

    /** "Trust is never below 0 nor above 20. When it gets more or less by something, it stops there." (deliver) */
    private static void trustStops() {
        int[][] losses = {{0, 0}, {1, 0}, {2, 0}, {3, 0}, {4, 1}, {20, 17}};
        for (int[] loss : losses) {
            ReviewTable x = table(0, 0, loss[0], 19, 20);
            Check.work(x, 0, 0, 10, 1, 20, 2, 20);
            Check.trusts("left with " + loss[0], x, loss[1], 20, 20);
        }
    }

    /** deliver(): "Both workers by which a row is finished earn its size in points": sizes 1 and 9. */
    private static void points() {
        ReviewTable x = Check.loaded(SIX + "rows 1 size 1;rows 1 size 9;");
        Check.work(x, 0, 0, 0, 1, 0);
        Check.due("size 1", x.worker(0, 8), 1);
        Check.work(x, 1, 0, 0, 5, 0);
        Check.due("size 9", x.worker(5, 8), 9);
        Check.due("both", x.worker(0, 8), 10);
    }

    // ---- time, promise 43 -------------------------------------------------------------------

    /** pass(): "ticks: 1 to 99". */
    private static void passRange() {
        ReviewTable x = new ReviewTable();
        int[] beyond = {0, -1, 100, LEAST, MOST};
        for (int ticks : beyond) {
            Check.noValue("pass(" + ticks + ")", () -> x.pass(ticks));
        }
        Check.due("time", x.property(2), 0);
        Check.due("pass(1)", x.pass(1), 0);
        Check.due("pass(99)", x.pass(99), 0);
        Check.due("time", x.property(2), 100);
    }

    /** "Time passes, tick by tick": many ticks at once are as many calls of one tick. */
    private static void tickByTick() {
        ReviewTable x = table(0, 0, 1, 2, 20);
        ReviewTable y = table(0, 0, 1, 2, 20);
        int sum = 0;
        for (ReviewTable each : new ReviewTable[] {x, y}) {
            Check.take(each, 0, 0, 1);
            Check.take(each, 1, 1, 0);
            Check.work(each, 2, 0, 5, 1, 9);
            each.pass(2);
            Check.take(each, 2, 2);
            Check.take(each, 3, 0, 1);
        }
        for (int i = 0; i < 20; i++) {
            sum += y.pass(1);
        }
        Check.due("takings that were late", x.pass(20), 7);
        Check.due("tick by tick", sum, 7);
        Check.due("told", Check.told(y), Check.told(x));
        Check.trusts("late ones", x, 0, 0, 19);
        Check.due("late", x.worker(0, 7), 3);
    }

    /** "it is gone": its place, and the places behind it; results stay. */
    private static void gone() {
        ReviewTable x = table(0, 0, 10, 10, 10);
        x.takeRow(0, 0);
        x.pass(1);
        x.takeRow(1, 0);
        Check.due("at the time of the first", x.pass(4), 0);
        Check.due("the first is late", x.pass(1), 1);
        Check.due("takings", x.row(0, 4), 1);
        Check.due("the second is the first now", x.taking(0, 0, 0), 1);
        Check.due("its time", x.taking(0, 0, 2), 6);
        Check.noWorker("there is no second", () -> x.taking(0, 1, 0));
        Check.due("in work", x.worker(0, 3), 0);
        Check.due("made", x.worker(0, 4), 1);
        Check.due("the second is late", x.pass(1), 1);
        Check.noWorker("there is no first", () -> x.taking(0, 0, 0));
    }

    // ---- audits, promise 44 -----------------------------------------------------------------

    /** audit(): "the right number, 0 to 99". */
    private static void auditRange() {
        ReviewTable x = table(0, 0, 10, 10);
        Check.work(x, 0, 0, 0, 1, 0);
        Check.work(x, 1, 0, 99, 1, 99);
        int[] beyond = {-1, 100, LEAST, MOST};
        for (int number : beyond) {
            Check.noValue("audit(0," + number + ")", () -> x.audit(0, number));
        }
        Check.due("audit(0,0)", x.audit(0, 0), true);
        Check.due("audit(1,99)", x.audit(1, 99), true);
    }

    /** "An audit tells the right number of a finished row, once." */
    private static void auditOnce() {
        ReviewTable x = table(0, 0, 10, 10, 10);
        Check.noState("open", () -> x.audit(0, 0));
        Check.work(x, 0, 0, 0, 1, 9);
        Check.noState("disputed", () -> x.audit(0, 0));
        Check.work(x, 0, 2, 50);
        Check.noState("set aside", () -> x.audit(0, 0));
        Check.work(x, 1, 0, 0, 1, 0);
        x.audit(1, 50);
        Check.noState("again", () -> x.audit(1, 50));
        Check.noState("again, another number", () -> x.audit(1, 0));
        Check.due("one strike", x.strikes(0, 1), 1);
        Check.due("audited", x.property(10), 1);
        x.undo();
        Check.due("undone, it can be audited", x.audit(1, 0), true);
    }

    /** "It is right if the result of the row agrees with it": the tolerance, and one more. */
    private static void auditTolerance() {
        int[][] cases = {{0, 50, 50, 1}, {0, 50, 51, 0}, {0, 50, 49, 0}, {2, 50, 52, 1}, {2, 50, 48, 1}, {2, 50, 53, 0},
            {2, 50, 47, 0}, {20, 0, 20, 1}, {20, 0, 21, 0}, {20, 99, 79, 1}, {20, 99, 78, 0}, {20, 0, 99, 0}};
        for (int[] one : cases) {
            ReviewTable x = table(one[0], 0, 10, 10);
            Check.work(x, 0, 0, one[1], 1, one[1]);
            String what = "tolerance " + one[0] + ", " + one[1] + ", right is " + one[2];
            Check.due(what, x.audit(0, one[2]), one[3] == 1);
            Check.due(what + ": result", x.row(0, 2), one[3] == 1 ? one[1] : one[2]);
            Check.due(what + ": strikes", x.strikes(0, 1), 1 - one[3]);
            Check.due(what + ": trust", x.worker(0, 2), one[3] == 1 ? 13 : 7);
        }
    }

    /** "if its result agrees with the right number, the trust of its worker gets more by 2, otherwise less by 4", and stops. */
    private static void auditTrust() {
        int[][] right = {{0, 3}, {16, 19}, {17, 20}, {18, 20}, {19, 20}, {20, 20}};
        for (int[] one : right) {
            ReviewTable x = table(0, 0, one[0], one[0]);
            Check.work(x, 0, 0, 5, 1, 5);
            x.audit(0, 5);
            Check.trusts("right, from " + one[0], x, one[1], one[1]);
        }
        int[][] wrong = {{0, 0}, {2, 0}, {3, 0}, {4, 1}, {19, 16}, {20, 16}};
        for (int[] one : wrong) {
            ReviewTable x = table(0, 0, one[0], one[0]);
            Check.work(x, 0, 0, 5, 1, 5);
            x.audit(0, 6);
            Check.trusts("wrong, from " + one[0], x, one[1], one[1]);
        }
    }

    /** "For each taking": the one that is left too, each by its own result, not by that of the row. */
    private static void auditEachTaking() {
        ReviewTable x = table(2, 0, 10, 10, 10);
        Check.work(x, 0, 0, 10, 1, 14, 2, 13);
        Check.trusts("finished by b and c", x, 7, 11, 11);
        Check.due("wrong", x.audit(0, 11), false);
        Check.trusts("a and c are right, b is not", x, 9, 7, 13);
        Check.due("b and c by which it was finished", x.strikes(1, 2), 1);
        Check.due("not a", x.strikes(0, 1) + x.strikes(0, 2), 0);
        ReviewTable y = table(2, 0, 11, 10);
        Check.work(y, 0, 0, 10, 1, 12);
        Check.due("right by the result", y.audit(0, 8), true);
        Check.trusts("a is right, b is not", y, 14, 7);
        Check.due("no strike", y.strikes(0, 1), 0);
    }

    // ---- rows set aside, promise 45; pardon and bar, promises 46 and 47 ---------------------

    /** setAside(): "how many takings are gone": 0 to 2; "if it is finished or set aside already". */
    private static void setAside() {
        ReviewTable x = table(0, 0, 10, 10, 10);
        Check.due("none", x.setAside(9), 0);
        Check.noState("set aside already", () -> x.setAside(9));
        x.takeRow(0, 0);
        Check.due("one", x.setAside(0), 1);
        Check.take(x, 1, 0, 1);
        Check.due("two", x.setAside(1), 2);
        Check.take(x, 2, 0, 1);
        x.deliver(0, 2, 0);
        Check.due("one of two", x.setAside(2), 1);
        Check.due("the result stays", x.taking(2, 0, 1), 0);
        Check.work(x, 3, 0, 0, 1, 9);
        x.takeRow(2, 3);
        Check.due("the third", x.setAside(3), 1);
        Check.due("two results stay", x.row(3, 4), 2);
        Check.work(x, 4, 0, 0, 1, 0);
        Check.noState("finished", () -> x.setAside(4));
        Check.trusts("nobody loses trust", x, 11, 11, 10);
        Check.due("not late", x.worker(0, 7) + x.worker(1, 7) + x.worker(2, 7), 0);
        Check.due("none in work", x.worker(0, 3) + x.worker(1, 3) + x.worker(2, 3), 0);
        Check.due("nothing is late later", x.pass(99), 0);
        int[] noRow = {-1, 10, LEAST, MOST};
        for (int r : noRow) {
            Check.noWorker("setAside(" + r + ")", () -> x.setAside(r));
        }
    }

    /** pardon(): "becomes the least trust of the table"; "if it is not suspended". */
    private static void pardon() {
        ReviewTable x = table(0, 19, 0, 18, 19, 20);
        Check.due("from 0", x.pardon(0), 0);
        Check.due("one less", x.pardon(1), 18);
        Check.trusts("the least trust", x, 19, 19, 19, 20);
        for (int w = 0; w < 4; w++) {
            int who = w;
            Check.noState("pardon(" + w + ")", () -> x.pardon(who));
        }
        Check.due("suspended()", x.suspended(), 0);
        ReviewTable y = table(0, 0, 0);
        Check.noState("nobody is suspended at 0", () -> y.pardon(0));
        int[] nobody = {-1, 4, LEAST, MOST};
        for (int w : nobody) {
            Check.noWorker("pardon(" + w + ")", () -> x.pardon(w));
        }
    }

    /** bar(): "if they were not allowed to meet before", told ahead, by a call or by two strikes; "strikes of both become 0 then". */
    private static void bar() {
        ReviewTable x = table(0, 0, 20, 20, 20);
        Check.due("never told", x.bar(0, 1, false), false);
        for (int row = 0; row < 4; row++) {
            Check.work(x, row, 0, 5, 1, 5);
        }
        Check.work(x, 4, 0, 5, 2, 5);
        x.audit(4, 6);
        x.audit(0, 6);
        Check.due("one strike", x.bar(1, 0, false), false);
        Check.due("becomes 0", x.strikes(0, 1), 0);
        x.audit(1, 6);
        x.audit(2, 6);
        Check.due("two strikes", x.bar(1, 0, true), true);
        Check.due("become 0", x.strikes(1, 0), 0);
        Check.due("told", x.isBarred(0, 1), true);
        x.audit(3, 6);
        Check.due("one strike more", x.strikes(0, 1), 1);
        Check.due("told, and a strike", x.bar(0, 1, false), true);
        Check.due("not any more", x.isBarred(1, 0), false);
        Check.due("becomes 0", x.strikes(0, 1), 0);
        Check.due("strikes with another stay", x.strikes(0, 2), 1);
        Check.due("off again", x.bar(0, 1, false), false);
        int[] nobody = {-1, 3, LEAST, MOST};
        for (int w : nobody) {
            Check.noWorker("bar(0," + w + ",true)", () -> x.bar(0, w, true));
            Check.noWorker("bar(" + w + ",0,true)", () -> x.bar(w, 0, true));
        }
        for (int w = 0; w < 3; w++) {
            int who = w;
            Check.noValue("bar(" + w + "," + w + ")", () -> x.bar(who, who, true));
        }
    }

    /** bar(): "Takings that there are stay": both can deliver, and the row is finished. */
    private static void barKeepsTakings() {
        ReviewTable x = table(0, 0, 10, 10);
        Check.take(x, 0, 0, 1);
        x.bar(0, 1, true);
        x.deliver(0, 0, 5);
        Check.due("they finish it", x.deliver(1, 0, 5), 2);
        ReviewTable told = Check.loaded(SIX + "bar a b;rows 1 size 1;");
        Check.due("told ahead", told.bar(1, 0, false), true);
        told.takeRow(0, 0);
        Check.due("they may meet", told.takeRow(1, 0), 5);
    }

    // ---- rows and settings, promises 48 and 49 ----------------------------------------------

    /** addRows(): "many: 1 to 24", "size: 1 to 9", "if there would be more than 24 rows". */
    private static void addRows() {
        ReviewTable x = new ReviewTable();
        int[] beyond = {0, 25, -1, LEAST, MOST};
        for (int many : beyond) {
            Check.noValue("addRows(" + many + ",1)", () -> x.addRows(many, 1));
        }
        int[] sizes = {0, 10, -1, LEAST, MOST};
        for (int size : sizes) {
            Check.noValue("addRows(1," + size + ")", () -> x.addRows(1, size));
        }
        Check.due("the first one", x.addRows(1, 9), 0);
        Check.noState("24 more", () -> x.addRows(24, 1));
        Check.due("23 more", x.addRows(23, 1), 1);
        Check.noState("one more", () -> x.addRows(1, 1));
        Check.due("rows", x.property(1), 24);
        Check.due("row(0,0)", x.row(0, 0), 9);
        Check.due("row(23,0)", x.row(23, 0), 1);
        x.undo();
        Check.due("one row", x.property(1), 1);
        Check.due("22 more", x.addRows(22, 2), 1);
        Check.noState("two more", () -> x.addRows(2, 1));
        Check.due("the last one", x.addRows(1, 3), 23);
        ReviewTable y = new ReviewTable();
        Check.due("all at once", y.addRows(24, 9), 0);
        Check.due("left()", y.left(), 216);
    }

    private static void isNew(String when, ReviewTable x, int row, int size) {
        int[] want = {size, 0, -1, 0, 0, 2, 0};
        for (int what = 0; what < want.length; what++) {
            Check.due(when + ": row(" + row + "," + what + ")", x.row(row, what), want[what]);
        }
        Check.due(when + ": finishers", x.finishers(row), 0);
        Check.due(when + ": risk", x.risk(row), -1);
        Check.noWorker(when + ": taking", () -> x.taking(row, 0, 0));
        Check.due(when + ": nobody is refused for it", x.takers(row), 15);
    }

    /** addRows(): rows of a number that there was before, in every state, are new ones: open, and nobody took them. */
    private static void addedRowsAreNew() {
        for (int way = 0; way < 2; way++) {
            ReviewTable x = Check.loaded(HEAD + "worker a team 0 quota 5;worker b team 1 quota 5;worker c team 2 quota 5;"
                    + "worker d team 3 quota 5;");
            x.keep(0);
            x.addRows(6, 9);
            Check.work(x, 0, 0, 5, 1, 5);
            x.audit(0, 7);
            Check.work(x, 1, 0, 5, 1, 5);
            Check.work(x, 2, 0, 5, 1, 9);
            x.setAside(3);
            Check.take(x, 4, 2, 3);
            x.takeRow(2, 5);
            if (way == 0) {
                x.restore(0);
            } else {
                Check.load(x, HEAD + "worker e team 0 quota 5;worker f team 1 quota 5;worker g team 2 quota 5;worker h team 3 quota 5;");
            }
            x.addRows(6, 2);
            for (int row = 0; row < 6; row++) {
                isNew(way == 0 ? "restored" : "loaded", x, row, 2);
            }
            Check.due("accuracy", x.accuracy(0), 0.0f);
            Check.due("agreeing", x.agreeing(0, 1), 0);
        }
    }

    /** setTable(): "what: 0 .. 2", "value: as in section 1". */
    private static void setTableRange() {
        ReviewTable x = new ReviewTable();
        int[] beyond = {-1, 3, LEAST, MOST};
        for (int what : beyond) {
            Check.noValue("setTable(" + what + ",1)", () -> x.setTable(what, 1));
        }
        int[][] ranges = {{0, 20, 0}, {1, 50, 10}, {0, 19, 5}};
        for (int what = 0; what < 3; what++) {
            int[] wrong = {ranges[what][0] - 1, ranges[what][1] + 1, LEAST, MOST};
            for (int value : wrong) {
                int kind = what;
                Check.noValue("setTable(" + what + "," + value + ")", () -> x.setTable(kind, value));
            }
            Check.due("the least", x.setTable(what, ranges[what][0]), ranges[what][2]);
            Check.due("the greatest", x.setTable(what, ranges[what][1]), ranges[what][0]);
            Check.due("property", x.property(3 + what), ranges[what][1]);
        }
    }

    /** setTable(): "takings that there are keep the time at which they are due; no results are compared anew". */
    private static void setTableChangesNoRow() {
        ReviewTable x = table(0, 0, 10, 10, 10);
        Check.work(x, 0, 0, 10, 1, 11);
        Check.work(x, 1, 0, 10, 1, 10);
        x.takeRow(0, 2);
        x.setTable(0, 20);
        x.setTable(1, 50);
        Check.due("disputed still", x.row(0, 1), 1);
        Check.due("due as before", x.taking(2, 0, 2), 5);
        x.setTable(1, 1);
        Check.due("late as before", x.pass(5), 0);
        Check.due("late as before", x.pass(1), 1);
        x.setTable(0, 0);
        Check.due("finished still", x.row(1, 1), 2);
        x.takeRow(2, 0);
        x.setTable(0, 1);
        Check.due("the third by the tolerance of now", x.deliver(2, 0, 12), 2);
    }

    // ---- slots and undo, promises 50 to 53 --------------------------------------------------

    /** keep() and restore(): "slot: 0 or 1", "if nothing is kept there". */
    private static void slotRange() {
        ReviewTable x = new ReviewTable();
        int[] beyond = {-1, 2, LEAST, MOST};
        for (int slot : beyond) {
            Check.noWorker("keep(" + slot + ")", () -> x.keep(slot));
            Check.noWorker("restore(" + slot + ")", () -> x.restore(slot));
        }
        Check.noState("restore(0)", () -> x.restore(0));
        Check.noState("restore(1)", () -> x.restore(1));
        Check.due("keep(1)", x.keep(1), 0);
        Check.noState("restore(0), the other slot", () -> x.restore(0));
        Check.due("restore(1)", x.restore(1), 0);
        Check.due("keep(0)", x.keep(0), 0);
        Check.due("restore(0)", x.restore(0), 0);
    }

    /** keep(): "Keeps everything that undo() restores, but what can be undone"; restore(): "Makes everything as it was kept". */
    private static void keptAndRestored() {
        ReviewTable x = busy();
        String kept = Check.told(x);
        x.keep(1);
        x.pass(9);
        x.setAside(5);
        x.bar(0, 2, true);
        x.addRows(3, 3);
        x.setTable(0, 9);
        Check.due("the time that was kept", x.restore(1), 7);
        Check.due("as it was kept", Check.told(x), kept);
        x.undo();
        Check.due("the restore is undone", x.property(2), 16);
        Check.due("again", x.restore(1), 7);
        Check.due("which keeps it", Check.told(x), kept);
    }

    /** restore() and undo(): the right number and the workers by which a row was finished are those of before. */
    private static void otherEndOfARow() {
        ReviewTable x = table(2, 0, 10, 10, 10, 10);
        Check.work(x, 0, 0, 50, 1, 51);
        x.audit(0, 52);
        x.keep(0);
        String kept = Check.told(x);
        for (int i = 0; i < 5; i++) {
            x.undo();
        }
        Check.work(x, 0, 3, 60, 2, 60);
        x.audit(0, 99);
        String other = Check.told(x);
        Check.due("finished by the others", x.finishers(0), 12);
        x.restore(0);
        Check.due("restored", Check.told(x), kept);
        Check.due("finishers(0)", x.finishers(0), 3);
        Check.due("accuracy(0)", x.accuracy(0), 1.0f);
        Check.due("risk(0)", x.risk(0), 13);
        x.undo();
        Check.due("undone", Check.told(x), other);
        Check.due("finishers(0)", x.finishers(0), 12);
        Check.due("accuracy(3)", x.accuracy(3), 0.0f);
        x.setTable(0, 20);
        Check.due("accuracy(3), 60 and 99", x.accuracy(3), 0.0f);
    }

    /** keep(): "but what can be undone": restore() leaves that, and is one call more of it. */
    private static void whatCanBeUndoneIsNotKept() {
        ReviewTable x = new ReviewTable();
        x.pass(1);
        x.keep(0);
        x.pass(1);
        x.pass(1);
        x.restore(0);
        Check.due("undoCount()", x.undoCount(), 4);
        Check.due("undo()", x.undo(), 3);
        Check.due("time", x.property(2), 3);
        x.undo();
        x.undo();
        x.undo();
        x.restore(0);
        Check.due("undoCount()", x.undoCount(), 1);
    }

    /** keep(): "in a slot, in place of what was there". */
    private static void keepInPlace() {
        ReviewTable x = new ReviewTable();
        x.pass(1);
        x.keep(0);
        x.pass(1);
        x.keep(1);
        x.pass(1);
        Check.due("keep(0) again", x.keep(0), 3);
        Check.due("the other slot", x.restore(1), 2);
        Check.due("the new one", x.restore(0), 3);
        x.undo();
        x.undo();
        x.undo();
        Check.due("undo leaves the slots", x.restore(0), 3);
        Check.due("keep() cannot be undone", x.undoCount(), 3);
    }

    /** "the last 6 are kept": one to six of them, a seventh, and many more. */
    private static void lastSix() {
        int[] calls = {1, 5, 6, 7, 8, 12, 13, 30};
        for (int many : calls) {
            ReviewTable x = new ReviewTable();
            for (int i = 1; i <= many; i++) {
                x.pass(1);
                Check.due("undoCount() after " + i, x.undoCount(), Math.min(6, i));
            }
            int kept = Math.min(6, many);
            for (int i = kept - 1; i >= 0; i--) {
                Check.due("undo() of " + many, x.undo(), i);
                Check.due("undoCount()", x.undoCount(), i);
                Check.due("time", x.property(2), many - kept + i);
            }
            Check.noState("nothing to undo", () -> x.undo());
            Check.due("undoCount()", x.undoCount(), 0);
            Check.due("time", x.property(2), many - kept);
        }
    }

    /** The last six, when calls and undo() take turns round the end of what is kept. */
    private static void undoInTurns() {
        ReviewTable x = new ReviewTable();
        List<Integer> past = new ArrayList<>();
        for (int turn = 0; turn < 21; turn++) {
            for (int i = 0; i <= turn % 7; i++) {
                past.add(x.property(2));
                x.pass(1 + turn);
            }
            while (past.size() > 6) {
                past.remove(0);
            }
            for (int i = 0; i <= turn % 3 && !past.isEmpty(); i++) {
                Check.due("undo() in turn " + turn, x.undo(), past.size() - 1);
                Check.due("time in turn " + turn, x.property(2), past.remove(past.size() - 1));
            }
            Check.due("undoCount() in turn " + turn, x.undoCount(), past.size());
        }
    }

    /** "each call .. that does not throw (also if nothing changes) can be undone", and those alone. */
    private static void whatCanBeUndone() {
        ReviewTable x = new ReviewTable();
        Check.due("new", x.undoCount(), 0);
        Check.load(x, HEAD + "rows 1 size 1;worker a team 0 quota 1;worker b team 1 quota 1;");
        Check.due("load()", x.undoCount(), 1);
        x.bar(0, 1, false);
        Check.due("bar() as it was", x.undoCount(), 2);
        x.setTable(1, 5);
        Check.due("setTable() as it was", x.undoCount(), 3);
        x.keep(0);
        Check.due("keep()", x.undoCount(), 3);
        x.restore(0);
        Check.due("restore() as it was", x.undoCount(), 4);
        x.load();
        Check.due("load() with an error", x.undoCount(), 4);
        x.append(0, 0, 0, 0, 0);
        x.truncate(0);
        x.find();
        x.writeRows();
        x.writeRow(0);
        x.writeWorkers();
        Check.due("the buffers", x.undoCount(), 4);
        Check.due("undo()", x.undo(), 3);
        Check.due("undo() itself cannot be undone", x.undo(), 2);
    }

    /** "undo() restores everything except the two buffers, the parse error and the two slots." */
    private static void undoLeaves() {
        ReviewTable x = new ReviewTable();
        Check.load(x, HEAD + "rows 2 size 1;");
        x.pass(4);
        x.writeRows();
        x.keep(1);
        Check.load(x, HEAD + "rows 3 size 1;worker a team 9");
        Check.put(x, "abc");
        while (x.undoCount() > 0) {
            x.undo();
        }
        Check.due("code", x.errorCode(), 2);
        Check.due("position", x.errorPosition(), 65);
        Check.due("output", Check.written(x), "o o");
        x.truncate(3);
        Check.noValue("truncate(4)", () -> x.truncate(4));
        Check.due("the slot", x.restore(1), 4);
        Check.due("patience before the load was 10, the slot has that of the text", x.property(4), 5);
        x.undo();
        Check.due("patience", x.property(4), 10);
        Check.due("rows", x.property(1), 0);
    }

    // ---- "A call that throws changes nothing" -----------------------------------------------

    /** Rows: 0 audited, 1 finished, 2 disputed with a third in work, 3 with one in work, 4 set aside, 5 open; d is suspended. */
    private static ReviewTable busy() {
        ReviewTable x = Check.loaded(HEAD + "worker a team 0 quota 2;worker b team 1 quota 5;worker c team 2 quota 5;"
                + "worker d team 3 quota 5 trust 4;rows 6 size 3;bar b c;");
        x.bar(1, 2, false);
        Check.work(x, 0, 0, 5, 1, 5);
        x.audit(0, 50);
        Check.work(x, 1, 1, 5, 2, 5);
        Check.work(x, 2, 0, 5, 1, 9);
        x.pass(7);
        x.keep(0);
        x.takeRow(2, 2);
        x.takeRow(0, 3);
        x.setAside(4);
        x.writeWorkers();
        return x;
    }

    private static void changesNothing(String call, Class<?> exception, Step step) {
        ReviewTable x = busy();
        Check.put(x, "worker bea");
        for (int i = 0; i < 24; i++) {
            x.append(0x20202020, 0x20202020, 0x20202020, 0x20202020, 0x20202020);
        }
        Check.dueThrow(call, exception, () -> step.in(x));
        Check.due(call + ": all", Check.toldAll(x), Check.toldAll(busy()));
        Check.due(call + ": the slot", x.restore(0), 7);
        x.truncate(490);
        Check.noValue(call + ": the input buffer", () -> x.truncate(491));
        x.load();
        Check.due(call + ": its bytes", x.errorPosition(), 0);
    }

    private static void throwsChangeNothing() {
        Class<?> index = IndexOutOfBoundsException.class;
        Class<?> value = IllegalArgumentException.class;
        Class<?> state = IllegalStateException.class;
        changesNothing("append", state, x -> x.append(-1, -1, -1, -1, -1));
        changesNothing("truncate(491)", value, x -> x.truncate(491));
        changesNothing("truncate(-1)", value, x -> x.truncate(-1));
        changesNothing("take(4)", index, x -> x.take(4));
        changesNothing("take(3)", state, x -> x.take(3));
        changesNothing("takeRow(4,5)", index, x -> x.takeRow(4, 5));
        changesNothing("takeRow(0,6)", index, x -> x.takeRow(0, 6));
        changesNothing("takeRow(3,5), suspended", state, x -> x.takeRow(3, 5));
        changesNothing("takeRow(1,1), finished", state, x -> x.takeRow(1, 1));
        changesNothing("takeRow(0,3), in work", state, x -> x.takeRow(0, 3));
        changesNothing("deliver(4,2,5)", index, x -> x.deliver(4, 2, 5));
        changesNothing("deliver(2,6,5)", index, x -> x.deliver(2, 6, 5));
        changesNothing("deliver(2,2,100)", value, x -> x.deliver(2, 2, 100));
        changesNothing("deliver(1,2,5), delivered", state, x -> x.deliver(1, 2, 5));
        changesNothing("deliver(2,3,5), not taken", state, x -> x.deliver(2, 3, 5));
        changesNothing("pass(0)", value, x -> x.pass(0));
        changesNothing("pass(100)", value, x -> x.pass(100));
        changesNothing("audit(6,5)", index, x -> x.audit(6, 5));
        changesNothing("audit(1,100)", value, x -> x.audit(1, 100));
        changesNothing("audit(0,5), again", state, x -> x.audit(0, 5));
        changesNothing("audit(2,5), disputed", state, x -> x.audit(2, 5));
        changesNothing("setAside(6)", index, x -> x.setAside(6));
        changesNothing("setAside(0), finished", state, x -> x.setAside(0));
        changesNothing("setAside(4), again", state, x -> x.setAside(4));
        changesNothing("pardon(4)", index, x -> x.pardon(4));
        changesNothing("pardon(0), not suspended", state, x -> x.pardon(0));
        changesNothing("bar(0,4,true)", index, x -> x.bar(0, 4, true));
        changesNothing("bar(0,0,true)", value, x -> x.bar(0, 0, true));
        changesNothing("addRows(0,1)", value, x -> x.addRows(0, 1));
        changesNothing("addRows(1,10)", value, x -> x.addRows(1, 10));
        changesNothing("addRows(19,1), no room", state, x -> x.addRows(19, 1));
        changesNothing("setTable(3,1)", value, x -> x.setTable(3, 1));
        changesNothing("setTable(0,21)", value, x -> x.setTable(0, 21));
        changesNothing("setTable(1,0)", value, x -> x.setTable(1, 0));
        changesNothing("keep(2)", index, x -> x.keep(2));
        changesNothing("restore(2)", index, x -> x.restore(2));
        changesNothing("restore(1), empty", state, x -> x.restore(1));
        changesNothing("writeRow(6)", index, x -> x.writeRow(6));
        changesNothing("outputByte(999)", NoSuchElementException.class, x -> x.outputByte(999));
        changesNothing("property(11)", value, x -> x.property(11));
        changesNothing("stateIf(2,2,100)", value, x -> x.stateIf(2, 2, 100));
        changesNothing("trustIf(2,2,5,4)", index, x -> x.trustIf(2, 2, 5, 4));
        changesNothing("finishing(1,2)", state, x -> x.finishing(1, 2));
    }

    // ---- the output buffer, promises 54 to 57 -----------------------------------------------

    /** writeRows(): no rows, and the longest output that there can be. */
    private static void longestRows() {
        Check.due("no rows", new ReviewTable().writeRows(), 0);
        ReviewTable x = Check.loaded(SIX + "rows 24 size 1;");
        Check.due("all open", x.writeRows(), 47);
        for (int row = 0; row < 24; row++) {
            Check.work(x, row, 0, 99, 1, 99);
            x.audit(row, 99);
        }
        Check.due("all audited", x.writeRows(), 24 * 4 + 23);
        Check.due("the first", Check.written(x).substring(0, 5), "f99* ");
        Check.due("the last", Check.written(x).substring(114), " f99*");
    }

    /** writeRows(): "behind f the result and the byte * if it was audited": results of one and two digits, and each state. */
    private static void rowBytes() {
        ReviewTable x = table(0, 0, 20, 20, 20);
        Check.work(x, 0, 0, 0, 1, 0);
        Check.work(x, 1, 0, 9, 1, 9);
        Check.work(x, 2, 0, 10, 1, 10);
        Check.work(x, 3, 0, 99, 1, 99);
        x.audit(0, 0);
        x.audit(3, 0);
        Check.work(x, 4, 0, 1, 1, 2);
        Check.work(x, 5, 0, 1, 1, 2, 2, 3);
        x.setAside(6);
        x.takeRow(0, 7);
        Check.due("rows", Check.rowsText(x), "f0* f9 f10 f0* d a a o o o");
    }

    /** writeRow(): "= with its result, or @ with the time at which it is due"; no takings write nothing. */
    private static void takingBytes() {
        ReviewTable x = Check.loaded(HEAD + "worker abcdef team 0 quota 1;worker z team 1 quota 1;rows 2 size 1;");
        Check.due("no takings", x.writeRow(1), 0);
        x.setTable(1, 1);
        x.takeRow(1, 1);
        Check.due("one digit", Check.rowText(x, 1), "z@1");
        for (int i = 0; i < 101; i++) {
            x.pass(99);
        }
        x.takeRow(0, 1);
        Check.due("five digits", Check.rowText(x, 1), "abcdef@10000");
        x.deliver(0, 1, 0);
        Check.due("result 0", Check.rowText(x, 1), "abcdef=0");
        x.setAside(1);
        Check.due("set aside", Check.rowText(x, 1), "abcdef=0");
        Check.due("the other row", x.writeRow(0), 0);
        Check.due("nothing is left", Check.written(x), "");
    }

    /** writeWorkers(): "the byte ! if it is suspended"; trust 0 and 20; no workers write nothing. */
    private static void workerBytes() {
        Check.due("no workers", new ReviewTable().writeWorkers(), 0);
        ReviewTable x = table(0, 9, 0, 8, 9, 20);
        Check.due("workers", Check.workersText(x), "a:0!/0 b:8!/0 c:9/0 d:20/0");
        x.setTable(2, 0);
        Check.due("nobody is suspended at 0", Check.workersText(x), "a:0/0 b:8/0 c:9/0 d:20/0");
        for (int row = 0; row < 9; row++) {
            Check.work(x, row, 2, 0, 3, 0);
        }
        Check.due("two digits of points", Check.workersText(x), "a:0/0 b:8/0 c:18/63 d:20/63");
    }

    /** outputByte(): "if there is no such byte": an empty buffer, the ends of a full one, and one that got shorter. */
    private static void outputRange() {
        ReviewTable x = Check.loaded(SIX + "rows 1 size 1;");
        int[] never = {-1, LEAST, MOST};
        int[] lengths = {0, x.writeRows(), x.writeWorkers(), x.writeRows(), x.writeRow(0)};
        int[] want = {0, 1, 41, 1, 0};
        for (int i = 0; i < lengths.length; i++) {
            Check.due("length", lengths[i], want[i]);
        }
        for (int way = 0; way < 3; way++) {
            int length = way == 0 ? x.writeWorkers() : way == 1 ? x.writeRows() : x.writeRow(0);
            for (int index : never) {
                Check.dueThrow("outputByte(" + index + ")", NoSuchElementException.class, () -> x.outputByte(index));
            }
            Check.dueThrow("outputByte(length)", NoSuchElementException.class, () -> x.outputByte(length));
            Check.due("bytes", Check.written(x).length(), length);
        }
        ReviewTable none = new ReviewTable();
        Check.dueThrow("outputByte(0) of a new one", NoSuchElementException.class, () -> none.outputByte(0));
    }

    // ---- "An object is used for at most 512 calls" ------------------------------------------

    private static void lastOf512Calls() {
        ReviewTable x = new ReviewTable();
        int calls = 0;
        for (int i = 0; i < 503; i++) {
            Check.due("pass(99)", x.pass(99), 0);
            calls++;
        }
        Check.due("time", x.property(2), 503 * 99);
        Check.due("addRows(24,9)", x.addRows(24, 9), 0);
        Check.due("writeRows()", x.writeRows(), 47);
        Check.due("outputByte(46)", x.outputByte(46), 'o');
        Check.due("keep(1)", x.keep(1), 503 * 99);
        Check.due("restore(1)", x.restore(1), 503 * 99);
        Check.due("undo()", x.undo(), 5);
        Check.due("undo()", x.undo(), 4);
        Check.due("left(), the last call", x.left(), 0);
        Check.due("calls", calls + 9, 512);
    }

    public static void main(String[] args) {
        takeNone();
        takeByKinds();
        takeRowRefused();
        dueTimes();
        orderOfExceptions();
        deliverRange();
        lastMoment();
        resultOfTwo();
        trustOfNow();
        disputed();
        thirdAgreesWithNeither();
        nearerOne();
        firstIsTheFirstTaking();
        resultOfThree();
        theOneThatIsLeft();
        trustStops();
        points();
        passRange();
        tickByTick();
        gone();
        auditRange();
        auditOnce();
        auditTolerance();
        auditTrust();
        auditEachTaking();
        setAside();
        pardon();
        bar();
        barKeepsTakings();
        addRows();
        addedRowsAreNew();
        setTableRange();
        setTableChangesNoRow();
        slotRange();
        keptAndRestored();
        otherEndOfARow();
        whatCanBeUndoneIsNotKept();
        keepInPlace();
        lastSix();
        undoInTurns();
        whatCanBeUndone();
        undoLeaves();
        throwsChangeNothing();
        longestRows();
        rowBytes();
        takingBytes();
        workerBytes();
        outputRange();
        lastOf512Calls();
        Check.finish("ChangeBoundaryTest");
    }
}
