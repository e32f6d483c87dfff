/** The edges that section 2 and promises 8 to 39 name: one test for each sentence, which stands above it. */
public final class QuestionBoundaryTest {
    private static final String HEAD = Check.HEAD;
    private static final String SIX = Check.SIX;
    private static final int LEAST = Integer.MIN_VALUE;
    private static final int MOST = Integer.MAX_VALUE;

    /** A table of some workers with teams 0, 1, 2 .., quota 5 and these trusts. */
    private static String table(int tolerance, int patience, int least, int... trusts) {
        StringBuilder text = new StringBuilder("table tolerance ").append(tolerance).append(" patience ").append(patience)
                .append(" least ").append(least).append(';');
        for (int i = 0; i < trusts.length; i++) {
            text.append("worker ").append((char) ('a' + i)).append(" team ").append(i).append(" quota 5 trust ")
                    .append(trusts[i]).append(';');
        }
        return text.toString();
    }

    // ---- single numbers, promises 8 to 12 ---------------------------------------------------

    /** property(): "what: 0 .. 10", out of range else, also without a table. */
    private static void propertyRange() {
        ReviewTable x = new ReviewTable();
        int[] beyond = {-1, 11, LEAST, MOST};
        for (int what : beyond) {
            Check.noValue("property(" + what + ")", () -> x.property(what));
        }
        Check.due("property(0)", x.property(0), 0);
        Check.due("property(10)", x.property(10), 0);
    }

    /** "6 to 9 rows in the state 0 to 3; 10 rows that were audited": none, and all of 24. */
    private static void allRowsInOneState() {
        ReviewTable[] all = new ReviewTable[5];
        for (int kind = 0; kind < 5; kind++) {
            all[kind] = Check.loaded(SIX + "rows 24 size 1;");
            for (int row = 0; row < 24; row++) {
                if (kind == 1) {
                    Check.work(all[kind], row, 0, 0, 1, 99);
                } else if (kind == 2 || kind == 4) {
                    Check.work(all[kind], row, 0, 0, 1, 0);
                } else if (kind == 3) {
                    all[kind].setAside(row);
                }
                if (kind == 4) {
                    all[kind].audit(row, 0);
                }
            }
            for (int state = 0; state < 4; state++) {
                int want = state == kind || state == 2 && kind == 4 ? 24 : 0;
                Check.due("all of kind " + kind + ": property(" + (6 + state) + ")", all[kind].property(6 + state), want);
            }
            Check.due("all of kind " + kind + ": property(10)", all[kind].property(10), kind == 4 ? 24 : 0);
        }
        Check.due("points of 24 rows", all[4].worker(0, 8), 24);
        Check.due("trust of 24 rows", all[4].worker(0, 2), 20);
    }

    /** worker(): what each number counts, and what it does not. */
    private static void workerCounts() {
        ReviewTable x = Check.loaded(SIX + "rows 5 size 7;");
        Check.work(x, 0, 0, 10, 1, 20, 2, 20);
        x.takeRow(0, 1);
        x.setAside(1);
        x.takeRow(0, 2);
        x.pass(6);
        Check.work(x, 3, 0, 5, 1, 5);
        x.takeRow(0, 4);
        int[] want = {0, 5, 7, 1, 5, 2, 1, 1, 7};
        for (int what = 0; what < 9; what++) {
            Check.due("worker(0," + what + ")", x.worker(0, what), want[what]);
        }
        int[] idle = {5, 5, 10, 0, 0, 0, 0, 0, 0};
        for (int what = 0; what < 9; what++) {
            Check.due("worker(5," + what + ")", x.worker(5, what), idle[what]);
        }
    }

    /** worker(): "no such worker" is told before "what out of range". */
    private static void workerRange() {
        ReviewTable x = Check.loaded(SIX);
        int[] nobody = {-1, 6, LEAST, MOST};
        for (int w : nobody) {
            Check.noWorker("worker(" + w + ",0)", () -> x.worker(w, 0));
            Check.noWorker("worker(" + w + ",9)", () -> x.worker(w, 9));
        }
        int[] nothing = {-1, 9, LEAST, MOST};
        for (int what : nothing) {
            Check.noValue("worker(0," + what + ")", () -> x.worker(0, what));
            Check.noValue("worker(5," + what + ")", () -> x.worker(5, what));
        }
        Check.due("worker(5,8)", x.worker(5, 8), 0);
    }

    /** "An open row wants two takings, a disputed one three; finished rows and those set aside want none." */
    private static void needs() {
        ReviewTable x = Check.loaded(SIX + "rows 3 size 1;");
        Check.due("open, no taking", x.row(0, 5), 2);
        x.takeRow(0, 0);
        Check.due("open, one taking", x.row(0, 5), 1);
        x.takeRow(1, 0);
        Check.due("open, two takings", x.row(0, 5), 0);
        x.pass(6);
        Check.due("open, both gone", x.row(0, 5), 2);
        Check.work(x, 0, 2, 0, 3, 3);
        Check.due("disputed, two takings", x.row(0, 5), 1);
        x.takeRow(4, 0);
        Check.due("disputed, three takings", x.row(0, 5), 0);
        x.pass(6);
        Check.due("disputed, the third is gone", x.row(0, 5), 1);
        x.takeRow(5, 0);
        x.deliver(5, 0, 50);
        Check.due("set aside by a third result", x.row(0, 5), 0);
        Check.work(x, 1, 2, 0, 3, 0);
        Check.due("finished", x.row(1, 5), 0);
        x.setAside(2);
        Check.due("set aside without takings", x.row(2, 5), 0);
    }

    /** row(): "its result, NONE if it is not finished": 0 is a result, one set aside has none. */
    private static void resultOfRow() {
        ReviewTable x = Check.loaded(SIX + "rows 4 size 9;");
        Check.due("open", x.row(0, 2), -1);
        Check.work(x, 0, 0, 0);
        Check.due("open with one result", x.row(0, 2), -1);
        Check.work(x, 0, 1, 0);
        Check.due("finished with 0", x.row(0, 2), 0);
        Check.work(x, 1, 0, 99, 1, 99);
        Check.due("finished with 99", x.row(1, 2), 99);
        Check.work(x, 2, 0, 0, 1, 50);
        Check.due("disputed", x.row(2, 2), -1);
        Check.work(x, 2, 2, 99);
        Check.due("set aside", x.row(2, 2), -1);
        x.audit(1, 0);
        Check.due("the result became 0", x.row(1, 2), 0);
    }

    /** row(): "the set of the workers that took it, also of takings that are gone": the ends of the set. */
    private static void setOfTakers() {
        ReviewTable x = Check.loaded(SIX + "rows 1 size 9;");
        Check.due("nobody", x.row(0, 6), 0);
        x.takeRow(5, 0);
        Check.due("the last one", x.row(0, 6), 32);
        x.pass(6);
        Check.due("gone", x.row(0, 6), 32);
        Check.due("its takings", x.row(0, 4), 0);
        x.takeRow(0, 0);
        Check.due("the first one", x.row(0, 6), 33);
        x.pass(6);
        for (int w = 1; w < 5; w++) {
            x.takeRow(w, 0);
            x.pass(6);
        }
        Check.due("all", x.row(0, 6), 63);
        Check.due("its takings", x.row(0, 4), 0);
    }

    /** row(): "no such row" is told before "what out of range". */
    private static void rowRange() {
        ReviewTable x = Check.loaded(HEAD + "rows 24 size 9;");
        int[] noRow = {-1, 24, LEAST, MOST};
        for (int r : noRow) {
            Check.noWorker("row(" + r + ",0)", () -> x.row(r, 0));
            Check.noWorker("row(" + r + ",7)", () -> x.row(r, 7));
        }
        int[] nothing = {-1, 7, LEAST, MOST};
        for (int what : nothing) {
            Check.noValue("row(0," + what + ")", () -> x.row(0, what));
            Check.noValue("row(23," + what + ")", () -> x.row(23, what));
        }
        Check.due("row(23,6)", x.row(23, 6), 0);
    }

    /** taking(): "index of a taking, from 0 in their order": none, one and three of them. */
    private static void takingRange() {
        ReviewTable x = Check.loaded(SIX + "rows 2 size 9;");
        Check.noWorker("taking(0,0,0) of none", () -> x.taking(0, 0, 0));
        Check.work(x, 0, 5, 0, 0, 3);
        x.takeRow(2, 0);
        Check.due("the first", x.taking(0, 0, 0), 5);
        Check.due("the last", x.taking(0, 2, 0), 2);
        int[] noTaking = {-1, 3, LEAST, MOST};
        for (int index : noTaking) {
            Check.noWorker("taking(0," + index + ",0)", () -> x.taking(0, index, 0));
            Check.noWorker("taking(0," + index + ",3)", () -> x.taking(0, index, 3));
        }
        int[] nothing = {-1, 3, LEAST, MOST};
        for (int what : nothing) {
            Check.noValue("taking(0,2," + what + ")", () -> x.taking(0, 2, what));
            Check.noWorker("taking(1,0," + what + ")", () -> x.taking(1, 0, what));
            Check.noWorker("taking(2,0," + what + ")", () -> x.taking(2, 0, what));
            Check.noWorker("taking(-1,0," + what + ")", () -> x.taking(-1, 0, what));
        }
    }

    /** taking(): "its result, NONE if it is in work", "due, NONE if it has a result": a result of 0 is one. */
    private static void takingNumbers() {
        ReviewTable x = Check.loaded(table(0, 50, 0, 10, 10) + "rows 1 size 9;");
        x.takeRow(1, 0);
        Check.due("in work", x.taking(0, 0, 1), -1);
        Check.due("its time", x.taking(0, 0, 2), 50);
        x.deliver(1, 0, 0);
        Check.due("result 0", x.taking(0, 0, 1), 0);
        Check.due("no time", x.taking(0, 0, 2), -1);
    }

    /** finishers(): "the set of the two workers by which it was finished; 0 if it is not finished". */
    private static void finishers() {
        ReviewTable x = Check.loaded(SIX + "rows 4 size 9;");
        Check.due("open", x.finishers(0), 0);
        Check.work(x, 0, 5, 0, 0, 0);
        Check.due("first and last worker", x.finishers(0), 33);
        Check.work(x, 1, 5, 0, 0, 9);
        Check.due("disputed", x.finishers(1), 0);
        Check.work(x, 1, 4, 9);
        Check.due("not the one that is left", x.finishers(1), 17);
        Check.work(x, 2, 5, 0, 0, 9, 4, 50);
        Check.due("set aside", x.finishers(2), 0);
        x.setAside(3);
        Check.due("set aside by a call", x.finishers(3), 0);
        x.audit(0, 99);
        Check.due("audited", x.finishers(0), 33);
    }

    // ---- who can take what, promises 13 to 19 -----------------------------------------------

    /** Reason 1: "its trust is less than the least trust of the table". */
    private static void reason1() {
        ReviewTable x = Check.loaded(table(2, 5, 5, 4, 5, 0, 20) + "rows 1 size 1;");
        Check.due("one less", x.refusal(0, 0), 1);
        Check.due("the least", x.refusal(1, 0), 0);
        Check.due("no trust", x.refusal(2, 0), 1);
        Check.due("all trust", x.refusal(3, 0), 0);
        x.setTable(2, 0);
        Check.due("nobody is suspended at 0", x.refusal(2, 0), 0);
        x.setTable(2, 19);
        Check.due("all trust at 19", x.refusal(3, 0), 0);
    }

    /** Reason 2: "it has as many rows in work as its quota, or more". */
    private static void reason2() {
        ReviewTable x = Check.loaded(HEAD + "worker a team 0 quota 1;worker b team 1 quota 5;rows 9 size 1;");
        Check.due("none of one", x.refusal(0, 8), 0);
        x.takeRow(0, 0);
        Check.due("one of one", x.refusal(0, 8), 2);
        x.deliver(0, 0, 0);
        Check.due("one delivered", x.refusal(0, 8), 0);
        for (int i = 0; i < 5; i++) {
            Check.due(i + " of five", x.refusal(1, 8), 0);
            x.takeRow(1, i);
        }
        Check.due("five of five", x.refusal(1, 8), 2);
        x.setAside(4);
        Check.due("one set aside", x.refusal(1, 8), 0);
        x.takeRow(1, 5);
        Check.due("five of five", x.refusal(1, 8), 2);
        x.pass(6);
        Check.due("all late", x.refusal(1, 8), 0);
    }

    /** Reason 3: "the row needs no worker". */
    private static void reason3() {
        ReviewTable x = Check.loaded(SIX + "rows 3 size 1;");
        Check.take(x, 0, 0, 1);
        Check.due("open with two", x.refusal(2, 0), 3);
        x.deliver(0, 0, 0);
        x.deliver(1, 0, 9);
        Check.due("disputed with two", x.refusal(2, 0), 0);
        x.takeRow(3, 0);
        Check.due("disputed with three", x.refusal(2, 0), 3);
        x.setAside(0);
        Check.due("set aside", x.refusal(2, 0), 3);
        Check.work(x, 1, 0, 0, 1, 0);
        Check.due("finished", x.refusal(2, 1), 3);
    }

    /** Reason 4: "it has taken this row before, also if that taking is gone". */
    private static void reason4() {
        ReviewTable x = Check.loaded(SIX + "rows 2 size 1;");
        x.takeRow(0, 0);
        Check.due("in work", x.refusal(0, 0), 4);
        x.pass(6);
        Check.due("gone", x.refusal(0, 0), 4);
        Check.due("another row", x.refusal(0, 1), 0);
        x.takeRow(5, 0);
        x.deliver(5, 0, 0);
        Check.due("delivered", x.refusal(5, 0), 4);
        x.undo();
        x.undo();
        Check.due("the taking was undone", x.refusal(5, 0), 0);
    }

    /** Reasons 5 and 6: "a worker of its team", "a worker that it may not meet" that "has a taking of this row": not one that is gone. */
    private static void reasons5And6() {
        ReviewTable x = Check.loaded(HEAD + "worker a team 3 quota 5;worker b team 3 quota 5;worker c team 4 quota 5;bar c a;rows 2 size 1;");
        x.takeRow(0, 0);
        Check.due("same team, in work", x.refusal(1, 0), 5);
        Check.due("may not meet, in work", x.refusal(2, 0), 6);
        Check.due("another row", x.refusal(1, 1) + x.refusal(2, 1), 0);
        x.deliver(0, 0, 0);
        Check.due("same team, delivered", x.refusal(1, 0), 5);
        Check.due("may not meet, delivered", x.refusal(2, 0), 6);
        x.takeRow(0, 1);
        x.pass(6);
        Check.due("same team, gone", x.refusal(1, 1), 0);
        Check.due("may not meet, gone", x.refusal(2, 1), 0);
    }

    /** Reasons 5 and 6 look at each taking of a disputed row. */
    private static void reasonsAtTheSecondTaking() {
        ReviewTable x = Check.loaded(HEAD + "worker a team 0 quota 5;worker b team 1 quota 5;worker c team 1 quota 5;"
                + "worker d team 2 quota 5;worker e team 3 quota 5;bar d b;bar e a;rows 1 size 1;");
        Check.work(x, 0, 0, 0, 1, 50);
        Check.due("team of the second", x.refusal(2, 0), 5);
        Check.due("may not meet the second", x.refusal(3, 0), 6);
        Check.due("may not meet the first", x.refusal(4, 0), 6);
        x.bar(2, 0, true);
        Check.due("may not meet the first, team of the second: 5 is before 6", x.refusal(2, 0), 5);
    }

    /** "for the first of these reasons that applies; otherwise it can": all six apply, then one less each time. */
    private static void firstReason() {
        ReviewTable x = Check.loaded(HEAD + "worker a team 0 quota 1;worker b team 1 quota 1;worker c team 0 quota 1;"
                + "worker d team 2 quota 1;bar c a;bar d a;rows 2 size 1;");
        Check.take(x, 0, 0, 1);
        x.deliver(0, 0, 0);
        x.takeRow(0, 1);
        x.bar(0, 1, true);
        x.setTable(2, 11);
        Check.due("all six", x.refusal(0, 0), 1);
        x.setTable(2, 10);
        Check.due("2 to 6", x.refusal(0, 0), 2);
        x.deliver(0, 1, 0);
        Check.due("3 to 6", x.refusal(0, 0), 3);
        Check.due("3, 5 and 6", x.refusal(2, 0), 3);
        x.setTable(2, 5);
        x.pass(6);
        Check.due("4 and 5", x.refusal(0, 0), 4);
        Check.due("5 and 6", x.refusal(2, 0), 5);
        Check.due("6", x.refusal(3, 0), 6);
        Check.due("b took it, and may not meet a", x.refusal(1, 0), 4);
    }

    /** refusal(), offers(), nextFor(), takers(): "no such worker or row", also in an empty table. */
    private static void noneThere() {
        ReviewTable x = new ReviewTable();
        Check.noWorker("refusal(0,0)", () -> x.refusal(0, 0));
        Check.noWorker("offers(0)", () -> x.offers(0));
        Check.noWorker("nextFor(0)", () -> x.nextFor(0));
        Check.noWorker("takers(0)", () -> x.takers(0));
        Check.noWorker("isStuck(0)", () -> x.isStuck(0));
        Check.noWorker("bestPair(0)", () -> x.bestPair(0));
        Check.noWorker("take(0)", () -> x.take(0));
        ReviewTable workersOnly = Check.loaded(SIX);
        Check.noWorker("refusal(0,0)", () -> workersOnly.refusal(0, 0));
        Check.due("offers(5) without rows", workersOnly.offers(5), 0);
        Check.due("nextFor(5) without rows", workersOnly.nextFor(5), -1);
        Check.due("mostTakings() without rows", workersOnly.mostTakings(), 0);
        ReviewTable rowsOnly = new ReviewTable();
        rowsOnly.addRows(24, 1);
        Check.noWorker("refusal(0,0)", () -> rowsOnly.refusal(0, 0));
        Check.due("takers(23) without workers", rowsOnly.takers(23), 0);
        Check.due("mostTakings() without workers", rowsOnly.mostTakings(), 0);
        Check.due("bestPair(23) without workers", rowsOnly.bestPair(23), -1);
    }

    /** offers() and takers(): sets at their ends. */
    private static void endsOfSets() {
        ReviewTable x = Check.loaded(SIX + "rows 24 size 1;");
        Check.due("all rows", x.offers(5), 0xffffff);
        Check.due("all workers", x.takers(23), 63);
        for (int row = 0; row < 23; row++) {
            x.setAside(row);
        }
        Check.due("only the last row", x.offers(0), 1 << 23);
        Check.due("only the last row", x.nextFor(0), 23);
        x.setAside(23);
        Check.due("no row", x.offers(0), 0);
        Check.due("no row", x.nextFor(0), -1);
        ReviewTable y = Check.loaded(table(0, 5, 10, 9, 9, 9, 9, 9, 10) + "rows 1 size 1;");
        Check.due("only the last worker", y.takers(0), 32);
        y.takeRow(5, 0);
        Check.due("no worker", y.takers(0), 0);
    }

    /** take(): "a disputed one, or else one that has a taking, or else another one, the lowest one of several". */
    private static void nextRow() {
        ReviewTable x = Check.loaded(SIX + "rows 8 size 1;");
        x.takeRow(0, 6);
        x.takeRow(0, 7);
        Check.due("the lowest with a taking", x.nextFor(2), 6);
        Check.work(x, 4, 0, 0, 1, 9);
        Check.work(x, 5, 0, 0, 1, 9);
        Check.due("the lowest disputed one", x.nextFor(2), 4);
        x.takeRow(2, 4);
        Check.due("the other disputed one", x.nextFor(3), 5);
        Check.due("disputed ones it took: one with a taking", x.nextFor(1), 6);
        Check.due("all of these it took: another one", x.nextFor(0), 0);
        x.pass(6);
        Check.due("a taking that is gone is none", x.nextFor(1), 0);
    }

    /** isStuck(): "if it needs a worker": none of the rows that need none is stuck. */
    private static void stuckOnlyIfNeedy() {
        ReviewTable x = Check.loaded(table(2, 5, 0, 10, 10) + "rows 4 size 1;");
        Check.take(x, 0, 0, 1);
        Check.due("open with two takings", x.isStuck(0), false);
        Check.work(x, 1, 0, 5, 1, 5);
        Check.due("finished", x.isStuck(1), false);
        x.setAside(2);
        Check.due("set aside", x.isStuck(2), false);
        Check.due("open without takings", x.isStuck(3), false);
        Check.work(x, 3, 0, 5, 1, 50);
        Check.due("disputed, both took it", x.isStuck(3), true);
        x.pass(6);
        Check.due("open, both gone", x.isStuck(0), true);
        Check.due("lost()", x.lost(), 1 + 4 + 8);
    }

    /** isStuck(): "for each worker (also one to whom 1 or 2 applies) one of the reasons 4 to 6 applies". */
    private static void stuckForEachWorker() {
        ReviewTable x = Check.loaded(HEAD + "worker a team 0 quota 1;worker b team 0 quota 1;worker c team 1 quota 1;rows 2 size 1;bar c a;");
        Check.due("nobody took it", x.isStuck(0), false);
        x.takeRow(0, 0);
        Check.due("4, 5 and 6", x.isStuck(0), true);
        Check.due("another row", x.isStuck(1), false);
        x.bar(0, 2, false);
        Check.due("c is left", x.isStuck(0), false);
        x.takeRow(2, 1);
        Check.due("c has its quota", x.isStuck(0), false);
        Check.due("nobody can take it", x.takers(0), 0);
        x.setTable(2, 19);
        Check.due("c is suspended too", x.isStuck(0), false);
        x.pass(6);
        Check.due("a is gone: b and c are left", x.isStuck(0), false);
    }

    /** isStuck() without workers: there is none for whom no reason applies. */
    private static void stuckWithoutWorkers() {
        ReviewTable x = new ReviewTable();
        x.addRows(24, 1);
        Check.due("isStuck(23)", x.isStuck(23), true);
        Check.due("lost()", x.lost(), 0xffffff);
        x.setAside(23);
        Check.due("isStuck(23), set aside", x.isStuck(23), false);
        Check.due("lost()", x.lost(), 0xffffff);
    }

    /** bestPair(): "NONE for other rows, or if there are no such two". */
    private static void noPair() {
        Check.due("one worker", Check.loaded(table(0, 5, 0, 10) + "rows 1 size 1;").bestPair(0), -1);
        ReviewTable team = Check.loaded(HEAD + "worker a team 5 quota 1;worker b team 5 quota 1;rows 1 size 1;");
        Check.due("one team", team.bestPair(0), -1);
        ReviewTable x = Check.loaded(table(0, 5, 5, 10, 10, 4) + "rows 3 size 1;");
        Check.due("two of three", x.bestPair(0), 1);
        x.bar(1, 0, true);
        Check.due("they may not meet, the third is suspended", x.bestPair(0), -1);
        x.pardon(2);
        Check.due("the third may", x.bestPair(0), 2);
        x.takeRow(0, 0);
        Check.due("a row with a taking", x.bestPair(0), -1);
        x.pass(6);
        Check.due("the taking is gone, its worker took it before", x.bestPair(0), 8 + 2);
        Check.work(x, 1, 0, 0, 2, 9);
        Check.due("disputed", x.bestPair(1), -1);
        Check.work(x, 2, 0, 0, 2, 0);
        Check.due("finished", x.bestPair(2), -1);
        x.setAside(0);
        Check.due("set aside", x.bestPair(0), -1);
    }

    /** bestPair(): "for an open row without takings": one with a taking has none, though two others could take it. */
    private static void pairOnlyWithoutTakings() {
        ReviewTable x = Check.loaded(SIX + "rows 2 size 1;");
        Check.due("no taking", x.bestPair(0), 1);
        x.takeRow(0, 0);
        Check.due("one taking", x.bestPair(0), -1);
        Check.due("who could take it", x.takers(0), 62);
        x.takeRow(1, 0);
        Check.due("two takings", x.bestPair(0), -1);
        x.deliver(0, 0, 0);
        x.deliver(1, 0, 9);
        Check.due("disputed", x.bestPair(0), -1);
        Check.due("who could take it", x.takers(0), 60);
        Check.due("another row", x.bestPair(1), 1);
    }

    /** bestPair(): "the greatest trust together, the least such number of several": trust 0 and 20, all alike. */
    private static void greatestPair() {
        Check.due("no trust at all", Check.loaded(table(0, 5, 0, 0, 0, 0) + "rows 1 size 1;").bestPair(0), 1);
        Check.due("all trust", Check.loaded(table(0, 5, 0, 20, 20, 20) + "rows 1 size 1;").bestPair(0), 1);
        Check.due("the last two", Check.loaded(table(0, 5, 0, 9, 9, 9, 9, 10, 10) + "rows 1 size 1;").bestPair(0), 8 * 4 + 5);
        Check.due("9 and 11 are 10 and 10", Check.loaded(table(0, 5, 0, 8, 9, 11, 10, 10) + "rows 1 size 1;").bestPair(0), 8 * 2 + 3);
        Check.due("first and last", Check.loaded(table(0, 5, 0, 10, 9, 9, 9, 9, 10) + "rows 1 size 1;").bestPair(0), 5);
    }

    /** mostTakings(): "no two of them the same row", from none to as many as there are workers. */
    private static void mostTakings() {
        int[] rows = {1, 2, 5, 6, 7, 24};
        int[] want = {1, 2, 5, 6, 6, 6};
        for (int i = 0; i < rows.length; i++) {
            Check.due(rows[i] + " rows", Check.loaded(SIX + "rows " + rows[i] + " size 1;").mostTakings(), want[i]);
        }
        Check.due("no row", Check.loaded(SIX).mostTakings(), 0);
        Check.due("nothing", new ReviewTable().mostTakings(), 0);
        ReviewTable x = Check.loaded(SIX + "rows 2 size 1;");
        x.setTable(2, 11);
        Check.due("all suspended", x.mostTakings(), 0);
    }

    /** mostTakings(): the greatest number, though the lowest row for each worker in turn would give less. */
    private static void mostTakingsNotByTurns() {
        ReviewTable x = Check.loaded(table(0, 1, 0, 10, 10, 10) + "rows 3 size 1;");
        Check.take(x, 2, 0, 1);
        x.takeRow(2, 1);
        x.pass(2);
        x.takeRow(1, 1);
        x.pass(2);
        Check.due("a: 0 and 1", x.offers(0), 3);
        Check.due("b: 0", x.offers(1), 1);
        Check.due("c: 0 and 2", x.offers(2), 5);
        Check.due("a takes 1, b 0, c 2", x.mostTakings(), 3);
        x.setAside(2);
        Check.due("c is left out", x.mostTakings(), 2);
        x.setAside(1);
        Check.due("one row for all", x.mostTakings(), 1);
        x.setAside(0);
        Check.due("no row", x.mostTakings(), 0);
    }

    // ---- pairs and trust, promises 20 to 28 -------------------------------------------------

    /** "Two workers with two strikes may not meet any more": one does not part them, nor do those with others. */
    private static void twoStrikes() {
        ReviewTable x = Check.loaded(table(0, 5, 0, 20, 20, 20) + "rows 6 size 1;");
        for (int row = 0; row < 3; row++) {
            Check.work(x, row, 1, 5, 0, 5);
        }
        Check.work(x, 3, 0, 5, 2, 5);
        Check.due("strikes(0,1)", x.strikes(0, 1), 0);
        x.audit(0, 6);
        x.audit(3, 6);
        Check.due("one strike", x.strikes(0, 1), 1);
        Check.due("one with another", x.strikes(2, 0), 1);
        Check.due("none of the other two", x.strikes(1, 2), 0);
        Check.due("one does not part", x.isBarred(0, 1), false);
        x.audit(1, 6);
        Check.due("two strikes", x.strikes(1, 0), 2);
        Check.due("two part", x.isBarred(0, 1), true);
        Check.due("two part", x.isBarred(1, 0), true);
        Check.due("one does not", x.isBarred(0, 2), false);
        x.audit(2, 6);
        Check.due("three strikes", x.strikes(0, 1), 3);
        Check.due("three part", x.isBarred(0, 1), true);
        x.takeRow(0, 4);
        Check.due("refusal", x.refusal(1, 4), 6);
    }

    /** strikes(), isBarred(), agreeing(), differing(): "0 (false) if both are the same". */
    private static void withItself() {
        ReviewTable x = Check.loaded(table(0, 5, 0, 20, 20) + "rows 2 size 1;");
        Check.work(x, 0, 0, 5, 1, 5);
        Check.work(x, 1, 0, 5, 1, 5);
        x.audit(0, 9);
        x.audit(1, 9);
        for (int w = 0; w < 2; w++) {
            Check.due("strikes", x.strikes(w, w), 0);
            Check.due("isBarred", x.isBarred(w, w), false);
            Check.due("agreeing", x.agreeing(w, w), 0);
            Check.due("differing", x.differing(w, w), 0);
        }
        Check.noWorker("strikes(2,2)", () -> x.strikes(2, 2));
        Check.noWorker("isBarred(-1,-1)", () -> x.isBarred(-1, -1));
        Check.noWorker("agreeing(2,2)", () -> x.agreeing(2, 2));
        Check.noWorker("differing(-1,-1)", () -> x.differing(-1, -1));
    }

    /** "Two numbers agree if they differ by the tolerance of the table or less": 0, 2 and 20, in both orders. */
    private static void tolerance() {
        int[] tolerances = {0, 1, 2, 20};
        for (int t : tolerances) {
            int[][] pairs = {{50, 50}, {50, 50 + t}, {50 + t, 50}, {0, t}, {99, 99 - t}, {50, 51 + t}, {51 + t, 50}, {0, 1 + t}, {99, 98 - t}, {0, 99}};
            ReviewTable x = Check.loaded(table(t, 5, 0, 10, 10) + "rows 10 size 1;");
            for (int row = 0; row < pairs.length; row++) {
                Check.work(x, row, 0, pairs[row][0], 1, pairs[row][1]);
                Check.due("tolerance " + t + ", " + pairs[row][0] + " and " + pairs[row][1], x.row(row, 1), row < 5 ? 2 : 1);
            }
            Check.due("agreeing", x.agreeing(0, 1), 5);
            Check.due("agreeing", x.agreeing(1, 0), 5);
            Check.due("differing", x.differing(0, 1), 5);
            Check.due("differing", x.differing(1, 0), 5);
        }
    }

    /** agreeing() and differing(): "rows have results of both": one in work, or gone, is no result; a third is. */
    private static void resultsOfBoth() {
        ReviewTable x = Check.loaded(SIX + "rows 3 size 1;");
        Check.take(x, 0, 0, 1);
        Check.due("both in work", x.agreeing(0, 1) + x.differing(0, 1), 0);
        x.deliver(0, 0, 0);
        Check.due("one in work", x.agreeing(0, 1) + x.differing(0, 1), 0);
        x.pass(6);
        Check.due("gone", x.agreeing(0, 1) + x.differing(0, 1), 0);
        Check.work(x, 1, 0, 10, 1, 20, 2, 30);
        Check.due("differing(0,2) of one set aside", x.differing(0, 2), 1);
        Check.due("differing(1,2) of one set aside", x.differing(1, 2), 1);
        Check.work(x, 2, 0, 10, 1, 13, 2, 12);
        Check.due("agreeing(0,2)", x.agreeing(0, 2), 1);
        Check.due("agreeing(1,2)", x.agreeing(1, 2), 1);
        Check.due("differing(0,1)", x.differing(0, 1), 2);
        Check.due("agreeing(0,1)", x.agreeing(0, 1), 0);
    }

    /** accuracy(): "0.0f without such rows", and the numbers as floats; the present tolerance, or less. */
    private static void accuracy() {
        ReviewTable x = Check.loaded(table(0, 5, 0, 20, 20, 20) + "rows 4 size 1;");
        Check.due("no rows of it", x.accuracy(0), 0.0f);
        for (int row = 0; row < 3; row++) {
            Check.work(x, row, 0, 0, 1, 0);
        }
        Check.due("none audited", x.accuracy(0), 0.0f);
        x.audit(0, 0);
        Check.due("one of one", x.accuracy(0), 1.0f);
        x.audit(1, 3);
        Check.due("one of two", x.accuracy(0), 0.5f);
        x.audit(2, 2);
        Check.due("one of three", x.accuracy(1), 1.0f / 3.0f);
        x.setTable(0, 2);
        Check.due("two of three", x.accuracy(1), 2.0f / 3.0f);
        x.setTable(0, 3);
        Check.due("three of three", x.accuracy(1), 1.0f);
        Check.due("no rows of the third", x.accuracy(2), 0.0f);
        x.bar(0, 1, false);
        Check.work(x, 3, 0, 0, 1, 50, 2, 50);
        x.audit(3, 50);
        Check.due("three of four, as the one that was left", x.accuracy(0), 0.75f);
        Check.due("one of one, as a third", x.accuracy(2), 1.0f);
    }

    /** meanTrust(): "0.0 without workers"; the ends of trust, and a mean that is no number of tenths. */
    private static void meanTrust() {
        Check.due("no workers", new ReviewTable().meanTrust(), 0.0);
        Check.due("one", Check.loaded(table(0, 5, 0, 7)).meanTrust(), 7.0);
        Check.due("no trust", Check.loaded(table(0, 5, 0, 0, 0, 0, 0, 0, 0)).meanTrust(), 0.0);
        Check.due("all trust", Check.loaded(table(0, 5, 0, 20, 20, 20, 20, 20, 20)).meanTrust(), 20.0);
        Check.due("61 by 6", Check.loaded(table(0, 5, 0, 10, 10, 10, 10, 10, 11)).meanTrust(), 61.0 / 6.0);
    }

    /** suspended(): "its trust is less than the least trust": nobody, some, all. */
    private static void suspended() {
        Check.due("no workers", new ReviewTable().suspended(), 0);
        ReviewTable x = Check.loaded(table(0, 5, 0, 0, 1, 18, 19, 20, 0));
        Check.due("least 0", x.suspended(), 0);
        x.setTable(2, 1);
        Check.due("least 1", x.suspended(), 1 + 32);
        x.setTable(2, 19);
        Check.due("least 19", x.suspended(), 1 + 2 + 4 + 32);
        Check.due("all", Check.loaded(table(0, 5, 19, 18, 18, 18, 18, 18, 18)).suspended(), 63);
    }

    /** risk(): "the lesser trust, now, of the two workers by which it was finished; NONE if it is not finished": 0 is none of it. */
    private static void risk() {
        ReviewTable x = Check.loaded(table(0, 5, 0, 0, 20, 5) + "rows 5 size 1;");
        Check.due("open", x.risk(0), -1);
        Check.work(x, 0, 1, 0, 0, 0);
        Check.due("the lesser", x.risk(0), 1);
        x.takeRow(0, 1);
        x.pass(6);
        Check.due("no trust now", x.risk(0), 0);
        Check.due("nextAudit() of risk 0", x.nextAudit(), 0);
        x.audit(0, 0);
        Check.due("audited", x.risk(0), 2);
        Check.work(x, 2, 0, 0, 1, 9, 2, 9);
        Check.due("not the one that is left", x.worker(0, 2), 0);
        Check.due("of the two", x.risk(2), 6);
        Check.work(x, 3, 0, 0, 1, 9);
        Check.due("disputed", x.risk(3), -1);
        x.setAside(4);
        Check.due("set aside", x.risk(4), -1);
    }

    /** nextAudit(): "the least risk(), of several the one of the greatest size, then the lowest one; NONE if there is none". */
    private static void nextAudit() {
        Check.due("no rows", new ReviewTable().nextAudit(), -1);
        ReviewTable x = Check.loaded(table(0, 5, 0, 20, 20, 19, 19) + "rows 3 size 1;rows 1 size 9;rows 2 size 8;");
        Check.due("none finished", x.nextAudit(), -1);
        Check.work(x, 1, 0, 0, 1, 0);
        Check.due("one", x.nextAudit(), 1);
        Check.work(x, 0, 0, 0, 1, 0);
        Check.due("the lowest of the same", x.nextAudit(), 0);
        Check.work(x, 5, 0, 0, 1, 0);
        Check.due("the greatest size", x.nextAudit(), 5);
        Check.work(x, 4, 0, 0, 1, 0);
        Check.due("the lowest of the same size", x.nextAudit(), 4);
        x.takeRow(2, 3);
        x.pass(6);
        Check.work(x, 2, 2, 0, 3, 0);
        Check.due("the least risk, of size 1", x.nextAudit(), 2);
        x.audit(2, 0);
        Check.due("not again", x.nextAudit(), 4);
        int[] rest = {4, 5, 0, 1};
        for (int row : rest) {
            Check.due("the next", x.nextAudit(), row);
            x.audit(row, 0);
        }
        Check.due("all audited", x.nextAudit(), -1);
    }

    // ---- time and what would be, promises 29 to 33 ------------------------------------------

    /** nextDue(): "the least time at which a taking in work is due; NONE if there is none". */
    private static void nextDue() {
        ReviewTable x = Check.loaded(table(0, 1, 0, 10, 10) + "rows 3 size 1;");
        Check.due("none", x.nextDue(), -1);
        x.takeRow(0, 2);
        Check.due("patience 1", x.nextDue(), 1);
        x.setTable(1, 50);
        x.takeRow(0, 0);
        Check.due("the least, not the first row", x.nextDue(), 1);
        x.pass(1);
        Check.due("due now", x.nextDue(), 1);
        x.deliver(0, 2, 0);
        Check.due("the other", x.nextDue(), 50);
        x.takeRow(1, 0);
        Check.due("the earlier of one row", x.nextDue(), 50);
        x.pass(50);
        Check.due("one is late", x.nextDue(), 51);
        x.setAside(0);
        Check.due("none in work", x.nextDue(), -1);
    }

    /** lateIn(): "ticks: 0 to 99", "if nothing else was done": a taking is late behind its time, not at it. */
    private static void lateIn() {
        int[] patience = {1, 2, 49, 50};
        for (int p : patience) {
            ReviewTable x = Check.loaded(table(0, p, 0, 10, 10) + "rows 2 size 1;");
            Check.due("no taking", x.lateIn(99), 0);
            x.takeRow(0, 0);
            x.takeRow(1, 1);
            Check.due("now", x.lateIn(0), 0);
            Check.due("at its time", x.lateIn(p), 0);
            Check.due("behind it", x.lateIn(p + 1), 2);
            Check.due("in 99", x.lateIn(99), 2);
            x.deliver(0, 0, 0);
            Check.due("one has a result", x.lateIn(p + 1), 1);
            x.pass(p);
            Check.due("at its time", x.lateIn(0), 0);
            Check.due("one tick more", x.lateIn(1), 1);
            Check.due("it comes so", x.pass(1), 1);
            Check.due("gone", x.lateIn(99), 0);
        }
        ReviewTable none = new ReviewTable();
        int[] beyond = {-1, 100, LEAST, MOST};
        for (int ticks : beyond) {
            Check.noValue("lateIn(" + ticks + ")", () -> none.lateIn(ticks));
        }
    }

    /** stateIf() and finishing(): of two results, at both ends of the results and of the tolerance. */
    private static void finishingByTwo() {
        int[][] cases = {{0, 0, 1}, {0, 99, 1}, {0, 50, 1}, {2, 0, 3}, {2, 1, 4}, {2, 99, 3}, {2, 98, 4}, {2, 50, 5},
            {20, 0, 21}, {20, 99, 21}, {20, 19, 40}, {20, 20, 41}, {20, 80, 40}};
        for (int[] one : cases) {
            ReviewTable x = Check.loaded(table(one[0], 5, 0, 10, 10) + "rows 1 size 1;");
            Check.take(x, 0, 0, 1);
            Check.due("a first result", x.finishing(0, 0), 0);
            Check.due("a first result", x.stateIf(1, 0, one[1]), 0);
            x.deliver(1, 0, one[1]);
            Check.due("tolerance " + one[0] + ", result " + one[1], x.finishing(0, 0), one[2]);
            Check.due("the same", x.stateIf(0, 0, one[1]), 2);
            if (one[1] + one[0] < 99) {
                Check.due("the last that agrees", x.stateIf(0, 0, one[1] + one[0]), 2);
                Check.due("the first that does not", x.stateIf(0, 0, one[1] + one[0] + 1), 1);
            }
        }
    }

    /** finishing(): of a third result, where both lie apart, overlap, or at the ends. */
    private static void finishingByThree() {
        int[][] cases = {{0, 99, 6}, {10, 13, 8}, {10, 14, 9}, {10, 15, 10}, {10, 16, 10}, {96, 99, 6}};
        for (int[] one : cases) {
            ReviewTable x = Check.loaded(table(2, 5, 0, 10, 10, 10) + "rows 1 size 1;");
            Check.work(x, 0, 0, one[0], 1, one[1]);
            x.takeRow(2, 0);
            Check.due("results " + one[0] + " and " + one[1], x.finishing(2, 0), one[2]);
        }
    }

    /** stateIf(): of a third result that agrees with one, both or neither. */
    private static void stateByThree() {
        ReviewTable x = Check.loaded(table(2, 5, 0, 10, 10, 10) + "rows 1 size 1;");
        Check.work(x, 0, 0, 10, 1, 15);
        x.takeRow(2, 0);
        int[] states = {3, 2, 2, 2, 2, 2, 2, 2, 2, 2, 2, 3};
        for (int i = 0; i < states.length; i++) {
            Check.due("third result " + (7 + i), x.stateIf(2, 0, 7 + i), states[i]);
        }
    }

    /** trustIf(): "It stops there" (at 0 and 20), for each change that a result can bring. */
    private static void trustIfStops() {
        int[][] gains = {{0, 1}, {18, 19}, {19, 20}, {20, 20}};
        for (int[] gain : gains) {
            ReviewTable x = Check.loaded(table(0, 5, 0, gain[0], gain[0], 10) + "rows 1 size 1;");
            Check.work(x, 0, 1, 50);
            x.takeRow(0, 0);
            Check.due("gains from " + gain[0], x.trustIf(0, 0, 50, 0), gain[1]);
            Check.due("the other gains from " + gain[0], x.trustIf(0, 0, 50, 1), gain[1]);
            Check.due("disputed", x.trustIf(0, 0, 51, 0), gain[0]);
            Check.due("one that has no part", x.trustIf(0, 0, 50, 2), 10);
        }
        int[][] losses = {{0, 0, 0}, {1, 0, 0}, {2, 1, 0}, {3, 2, 0}, {4, 3, 1}, {20, 19, 17}};
        for (int[] loss : losses) {
            ReviewTable x = Check.loaded(table(0, 5, 0, loss[0], 10, loss[0]) + "rows 1 size 1;");
            Check.work(x, 0, 0, 10, 1, 20);
            x.takeRow(2, 0);
            Check.due("all lose: the first", x.trustIf(2, 0, 30, 0), loss[1]);
            Check.due("all lose: the third", x.trustIf(2, 0, 30, 2), loss[1]);
            Check.due("the one that is left", x.trustIf(2, 0, 20, 0), loss[2]);
        }
    }

    /** "If several exceptions apply, the one that is named first in the method's throws clause is thrown" (stateIf, trustIf, finishing). */
    private static void orderOfExceptions() {
        ReviewTable x = Check.loaded(SIX + "rows 1 size 1;");
        Check.noWorker("stateIf: worker, result and state", () -> x.stateIf(6, 0, 100));
        Check.noWorker("stateIf: row, result and state", () -> x.stateIf(0, 1, -1));
        Check.noValue("stateIf: result and state", () -> x.stateIf(0, 0, 100));
        Check.noState("stateIf: state", () -> x.stateIf(0, 0, 99));
        Check.noWorker("trustIf: worker, result and state", () -> x.trustIf(-1, 0, 100, 0));
        Check.noWorker("trustIf: row, result and state", () -> x.trustIf(0, -1, 100, 0));
        Check.noWorker("trustIf: other, result and state", () -> x.trustIf(0, 0, 100, 6));
        Check.noWorker("trustIf: other and state", () -> x.trustIf(0, 0, 0, 6));
        Check.noValue("trustIf: result and state", () -> x.trustIf(0, 0, -1, 0));
        Check.noState("trustIf: state", () -> x.trustIf(0, 0, 0, 0));
        Check.noWorker("finishing: worker and state", () -> x.finishing(6, 0));
        Check.noWorker("finishing: row and state", () -> x.finishing(0, 1));
        Check.noState("finishing: state", () -> x.finishing(0, 0));
    }

    /** "if the worker has not this row in work": not taken, delivered, gone, set aside, or another's. */
    private static void notInWork() {
        ReviewTable x = Check.loaded(SIX + "rows 3 size 1;");
        x.takeRow(0, 1);
        x.pass(6);
        x.takeRow(0, 2);
        x.setAside(2);
        Check.work(x, 0, 0, 50);
        x.takeRow(1, 0);
        int[][] pairs = {{0, 0}, {0, 1}, {0, 2}, {2, 0}, {1, 1}};
        for (int[] pair : pairs) {
            Check.noState("stateIf of " + pair[0] + " at " + pair[1], () -> x.stateIf(pair[0], pair[1], 0));
            Check.noState("trustIf of " + pair[0] + " at " + pair[1], () -> x.trustIf(pair[0], pair[1], 0, 0));
            Check.noState("finishing of " + pair[0] + " at " + pair[1], () -> x.finishing(pair[0], pair[1]));
            Check.noState("deliver of " + pair[0] + " at " + pair[1], () -> x.deliver(pair[0], pair[1], 0));
        }
        Check.due("the one in work", x.finishing(1, 0), 5);
    }

    /** "Methods that ask what would be do not change anything." */
    private static void askingChangesNothing() {
        ReviewTable x = Check.loaded(table(2, 5, 0, 10, 10, 10) + "rows 2 size 3;");
        Check.work(x, 0, 0, 10, 1, 15);
        x.takeRow(2, 0);
        Check.take(x, 1, 0, 1);
        x.writeRows();
        String before = Check.toldAll(x);
        for (int result = 0; result < 100; result += 9) {
            x.stateIf(2, 0, result);
            x.trustIf(2, 0, result, 1);
            x.stateIf(0, 1, result);
        }
        x.finishing(2, 0);
        x.lateIn(99);
        x.nextFor(0);
        x.mostTakings();
        Check.due("all is as it was", Check.toldAll(x), before);
    }

    // ---- the table as a whole, promises 34 to 39 --------------------------------------------

    /** lost(): "the set of the rows that are stuck or set aside": the ends of the set, and one that is neither. */
    private static void lost() {
        Check.due("no rows", new ReviewTable().lost(), 0);
        ReviewTable x = Check.loaded(table(0, 5, 0, 10, 10) + "rows 24 size 1;");
        Check.due("none", x.lost(), 0);
        x.setAside(23);
        Check.due("the last one is set aside", x.lost(), 1 << 23);
        Check.work(x, 0, 0, 0, 1, 9);
        Check.due("the first one is stuck", x.lost(), 1 << 23 | 1);
        Check.work(x, 1, 0, 0, 1, 0);
        Check.due("a finished one is not", x.lost(), 1 << 23 | 1);
    }

    /** finishedOf(): "size: 1 to 9". */
    private static void finishedOf() {
        ReviewTable x = Check.loaded(table(0, 5, 0, 10, 10) + "rows 2 size 1;rows 2 size 9;rows 1 size 8;");
        int[] beyond = {0, 10, -1, LEAST, MOST};
        for (int size : beyond) {
            Check.noValue("finishedOf(" + size + ")", () -> x.finishedOf(size));
        }
        for (int size = 1; size <= 9; size++) {
            Check.due("finishedOf(" + size + ")", x.finishedOf(size), 0);
        }
        Check.work(x, 0, 0, 0, 1, 0);
        Check.work(x, 2, 0, 0, 1, 0);
        Check.work(x, 3, 0, 0, 1, 0);
        Check.work(x, 4, 0, 0, 1, 9);
        x.setAside(1);
        int[] want = {1, 0, 0, 0, 0, 0, 0, 0, 2};
        for (int size = 1; size <= 9; size++) {
            Check.due("finishedOf(" + size + ")", x.finishedOf(size), want[size - 1]);
        }
    }

    /** left(): "the sum of the sizes of all rows that are neither finished nor set aside": none to all. */
    private static void left() {
        Check.due("no rows", new ReviewTable().left(), 0);
        ReviewTable x = Check.loaded(table(0, 5, 0, 10, 10) + "rows 24 size 9;");
        Check.due("all", x.left(), 216);
        Check.work(x, 0, 0, 0, 1, 0);
        Check.due("one finished", x.left(), 207);
        Check.work(x, 1, 0, 0, 1, 9);
        Check.due("one disputed", x.left(), 207);
        x.setAside(1);
        Check.due("one set aside", x.left(), 198);
        for (int row = 2; row < 24; row++) {
            x.setAside(row);
        }
        Check.due("none", x.left(), 0);
    }

    /** leader(): "the lowest one of several; NONE without workers"; place(): "1 and the number of workers that have more". */
    private static void leaderAndPlace() {
        Check.due("no workers", new ReviewTable().leader(), -1);
        ReviewTable x = Check.loaded(SIX + "rows 3 size 1;rows 1 size 9;");
        Check.due("nobody has points", x.leader(), 0);
        Check.due("place(0)", x.place(0), 1);
        Check.due("place(5)", x.place(5), 1);
        Check.work(x, 0, 4, 0, 5, 0);
        Check.due("two have one", x.leader(), 4);
        Check.due("place(5)", x.place(5), 1);
        Check.due("place(0)", x.place(0), 3);
        Check.work(x, 1, 1, 0, 5, 0);
        Check.due("the last one", x.leader(), 5);
        Check.due("place(4)", x.place(4), 2);
        Check.due("place(1)", x.place(1), 2);
        Check.due("place(0)", x.place(0), 4);
        Check.work(x, 3, 1, 0, 2, 0);
        Check.due("the most points, not the most rows", x.leader(), 1);
        int[] nobody = {-1, 6, LEAST, MOST};
        for (int w : nobody) {
            Check.noWorker("place(" + w + ")", () -> x.place(w));
            Check.noWorker("partner(" + w + ")", () -> x.partner(w));
        }
    }

    /** place(): the last of six. */
    private static void lastPlace() {
        ReviewTable x = Check.loaded(SIX + "rows 1 size 1;rows 1 size 2;rows 1 size 3;");
        Check.work(x, 0, 1, 0, 2, 0);
        Check.work(x, 1, 2, 0, 3, 0);
        Check.work(x, 2, 4, 0, 5, 0);
        int[] want = {6, 5, 1, 4, 1, 1};
        for (int w = 0; w < 6; w++) {
            Check.due("place(" + w + ")", x.place(w), want[w]);
        }
    }

    /** partner(): "not itself", "the lowest one of several; NONE if there is none with which it has one". */
    private static void partner() {
        Check.due("alone", Check.loaded(table(0, 5, 0, 10)).partner(0), -1);
        ReviewTable x = Check.loaded(SIX + "rows 6 size 1;");
        Check.due("no rows yet", x.partner(0), -1);
        Check.work(x, 0, 0, 0, 5, 0);
        Check.due("the last one", x.partner(0), 5);
        Check.due("the first one", x.partner(5), 0);
        Check.work(x, 1, 0, 0, 4, 0);
        Check.due("the lowest of two", x.partner(0), 4);
        Check.work(x, 2, 0, 0, 5, 0);
        Check.due("the most", x.partner(0), 5);
        Check.work(x, 3, 0, 0, 3, 9);
        Check.work(x, 4, 0, 0, 3, 9);
        Check.work(x, 5, 0, 0, 3, 9);
        Check.due("differing rows do not count", x.partner(0), 5);
        Check.due("only differing rows", x.partner(3), -1);
        x.setTable(0, 9);
        Check.due("by the tolerance now", x.partner(0), 3);
        Check.due("by the tolerance now", x.partner(3), 0);
    }

    public static void main(String[] args) {
        propertyRange();
        allRowsInOneState();
        workerCounts();
        workerRange();
        needs();
        resultOfRow();
        setOfTakers();
        rowRange();
        takingRange();
        takingNumbers();
        finishers();
        reason1();
        reason2();
        reason3();
        reason4();
        reasons5And6();
        reasonsAtTheSecondTaking();
        firstReason();
        noneThere();
        endsOfSets();
        nextRow();
        stuckOnlyIfNeedy();
        stuckForEachWorker();
        stuckWithoutWorkers();
        noPair();
        pairOnlyWithoutTakings();
        greatestPair();
        mostTakings();
        mostTakingsNotByTurns();
        twoStrikes();
        withItself();
        tolerance();
        resultsOfBoth();
        accuracy();
        meanTrust();
        suspended();
        risk();
        nextAudit();
        nextDue();
        lateIn();
        finishingByTwo();
        finishingByThree();
        stateByThree();
        trustIfStops();
        orderOfExceptions();
        notInWork();
        askingChangesNothing();
        lost();
        finishedOf();
        left();
        leaderAndPlace();
        lastPlace();
        partner();
        Check.finish("QuestionBoundaryTest");
    }
}
