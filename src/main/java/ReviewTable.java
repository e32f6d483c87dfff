import java.util.Arrays;
import java.util.NoSuchElementException;

/** A work table with apprentices, as ../shared/DOC.md describes it; README.md tells how the file is laid out. */
public final class ReviewTable {
    public static final int NONE = -1;
    public static final int PARSE_ERROR = -4;

    private static final int MAX_INPUT = 500;
    private static final int BYTES_PER_INT = 4;
    private static final int BYTES_PER_APPEND = 20;

    private static final int MAX_WORKERS = 6;
    private static final int MAX_ROWS = 24;
    private static final int MAX_NAME = 6;
    private static final int MAX_TEAM = 5;
    private static final int MAX_QUOTA = 5;
    private static final int MAX_SIZE = 9;
    private static final int MAX_TRUST = 20;
    private static final int USUAL_TRUST = 10;
    private static final int MAX_TOLERANCE = 20;
    private static final int MAX_PATIENCE = 50;
    private static final int MAX_LEAST = 19;
    private static final int MAX_RESULT = 99;
    private static final int MAX_TICKS = 99;
    private static final int MAX_TAKINGS = 3;
    private static final int STRIKES_TO_PART = 2;
    private static final int PAIR_FACTOR = 8;

    private static final int OPEN = 0;
    private static final int DISPUTED = 1;
    private static final int FINISHED = 2;
    private static final int ASIDE = 3;

    private static final int SUSPENDED = 1;
    private static final int QUOTA_FULL = 2;
    private static final int NOT_NEEDED = 3;
    private static final int TOOK_BEFORE = 4;
    private static final int SAME_TEAM = 5;
    private static final int KEPT_APART = 6;

    private static final int UNDO_STEPS = 6;
    private static final int SLOTS = 2;

    private final Parser parser;
    private final Input input;
    private final Table table;
    private final History history;
    private final Table[] slots;
    private final boolean[] slotFilled;
    private final Verdict verdict;
    private final StringBuilder output;
    private int parseCode;
    private int parsePosition;

    public ReviewTable() {
        parser = new Parser();
        input = parser.input;
        table = new Table();
        history = new History();
        slots = new Table[SLOTS];
        for (int i = 0; i < SLOTS; i++) {
            slots[i] = new Table();
        }
        slotFilled = new boolean[SLOTS];
        verdict = new Verdict();
        output = new StringBuilder();
        parseCode = 0;
        parsePosition = NONE;
    }

    // ---- the input buffer -------------------------------------------------------------------

    public int append(int a, int b, int c, int d, int e) throws IllegalStateException {
        if (input.length + BYTES_PER_APPEND > MAX_INPUT) {
            throw new IllegalStateException("the input buffer is full");
        }
        input.addFourBytes(a);
        input.addFourBytes(b);
        input.addFourBytes(c);
        input.addFourBytes(d);
        input.addFourBytes(e);
        return input.length;
    }

    public void truncate(int length) throws IllegalArgumentException {
        requireRange(length, 0, input.length);
        input.length = length;
    }

    public int load() {
        boolean parsed = parser.parseText();
        parseCode = parser.code;
        parsePosition = parser.codePosition;
        input.length = 0;
        if (!parsed) {
            return PARSE_ERROR;
        }
        history.remember(table);
        table.copyFrom(parser.draft);
        return table.workerCount;
    }

    public int errorCode() {
        return parseCode;
    }

    public int errorPosition() {
        return parsePosition;
    }

    public int find() {
        int worker = table.workerNamed(input, 0, input.length);
        input.length = 0;
        return worker;
    }

    // ---- single numbers ---------------------------------------------------------------------

    public int property(int what) throws IllegalArgumentException {
        requireRange(what, 0, 10);
        switch (what) {
            case 0: return table.workerCount;
            case 1: return table.rowCount;
            case 2: return table.time;
            case 3: return table.tolerance;
            case 4: return table.patience;
            case 5: return table.least;
            case 10: return table.countAudited();
            default: return table.countInState(what - 6);
        }
    }

    public int worker(int worker, int what) throws IndexOutOfBoundsException, IllegalArgumentException {
        requireWorker(worker);
        requireRange(what, 0, 8);
        Worker asked = table.workers[worker];
        switch (what) {
            case 0: return asked.team;
            case 1: return asked.quota;
            case 2: return asked.trust;
            case 3: return asked.inWork;
            case 4: return asked.made;
            case 5: return asked.delivered;
            case 6: return asked.finished;
            case 7: return asked.late;
            default: return asked.points;
        }
    }

    public int row(int row, int what) throws IndexOutOfBoundsException, IllegalArgumentException {
        requireRow(row);
        requireRange(what, 0, 6);
        Row asked = table.rows[row];
        switch (what) {
            case 0: return asked.size;
            case 1: return asked.state;
            case 2: return asked.result;
            case 3: return asked.audited ? 1 : 0;
            case 4: return asked.takingCount;
            case 5: return asked.missingWorkers();
            default: return asked.tookBefore;
        }
    }

    public int taking(int row, int index, int what) throws IndexOutOfBoundsException, IllegalArgumentException {
        requireRow(row);
        Row asked = table.rows[row];
        if (index < 0 || index >= asked.takingCount) {
            throw new IndexOutOfBoundsException("no such taking");
        }
        requireRange(what, 0, 2);
        switch (what) {
            case 0: return asked.workerAt(index);
            case 1: return asked.resultAt(index);
            default: return asked.isInWork(index) ? asked.dueAt(index) : NONE;
        }
    }

    public int finishers(int row) throws IndexOutOfBoundsException {
        requireRow(row);
        Row asked = table.rows[row];
        if (asked.state != FINISHED) {
            return 0;
        }
        return 1 << asked.firstFinisher | 1 << asked.secondFinisher;
    }

    // ---- who can take what ------------------------------------------------------------------

    public int refusal(int worker, int row) throws IndexOutOfBoundsException {
        requireWorker(worker);
        requireRow(row);
        return table.reasonAgainst(worker, row);
    }

    public int offers(int worker) throws IndexOutOfBoundsException {
        requireWorker(worker);
        return table.rowsFor(worker);
    }

    public int nextFor(int worker) throws IndexOutOfBoundsException {
        requireWorker(worker);
        return table.chosenRow(worker);
    }

    public int takers(int row) throws IndexOutOfBoundsException {
        requireRow(row);
        return table.workersFor(row);
    }

    public boolean isStuck(int row) throws IndexOutOfBoundsException {
        requireRow(row);
        return table.hasNobodyFor(row);
    }

    public int bestPair(int row) throws IndexOutOfBoundsException {
        requireRow(row);
        Row asked = table.rows[row];
        if (asked.state != OPEN || asked.takingCount > 0) {
            return NONE;
        }
        return table.mostTrustedPair(table.workersFor(row));
    }

    public int mostTakings() {
        return table.greatestMatching();
    }

    // ---- pairs and trust --------------------------------------------------------------------

    public int strikes(int worker, int other) throws IndexOutOfBoundsException {
        requireWorker(worker);
        requireWorker(other);
        return table.strikeCount[Table.pairIndex(worker, other)];
    }

    public boolean isBarred(int worker, int other) throws IndexOutOfBoundsException {
        requireWorker(worker);
        requireWorker(other);
        return table.areKeptApart(worker, other);
    }

    public int agreeing(int worker, int other) throws IndexOutOfBoundsException {
        requireWorker(worker);
        requireWorker(other);
        return table.countCompared(worker, other, true);
    }

    public int differing(int worker, int other) throws IndexOutOfBoundsException {
        requireWorker(worker);
        requireWorker(other);
        return table.countCompared(worker, other, false);
    }

    public float accuracy(int worker) throws IndexOutOfBoundsException {
        requireWorker(worker);
        int audited = 0;
        int right = 0;
        for (int i = 0; i < table.rowCount; i++) {
            Row each = table.rows[i];
            int result = each.resultBy(worker);
            if (each.audited && result != NONE) {
                audited++;
                if (table.agree(result, each.rightNumber)) {
                    right++;
                }
            }
        }
        return audited == 0 ? 0.0f : (float) right / (float) audited;
    }

    public double meanTrust() {
        int sum = 0;
        for (int i = 0; i < table.workerCount; i++) {
            sum += table.workers[i].trust;
        }
        return table.workerCount == 0 ? 0.0 : (double) sum / (double) table.workerCount;
    }

    public int suspended() {
        int set = 0;
        for (int i = 0; i < table.workerCount; i++) {
            if (table.isSuspended(i)) {
                set |= 1 << i;
            }
        }
        return set;
    }

    // ---- audits and time, asked -------------------------------------------------------------

    public int risk(int row) throws IndexOutOfBoundsException {
        requireRow(row);
        return table.riskOf(table.rows[row]);
    }

    public int nextAudit() {
        int best = NONE;
        for (int i = 0; i < table.rowCount; i++) {
            Row each = table.rows[i];
            if (each.state == FINISHED && !each.audited && (best == NONE || table.isRiskier(each, table.rows[best]))) {
                best = i;
            }
        }
        return best;
    }

    public int nextDue() {
        int least = NONE;
        for (int i = 0; i < table.rowCount; i++) {
            int due = table.rows[i].leastDue();
            if (due != NONE && (least == NONE || due < least)) {
                least = due;
            }
        }
        return least;
    }

    public int lateIn(int ticks) throws IllegalArgumentException {
        requireRange(ticks, 0, MAX_TICKS);
        int count = 0;
        for (int i = 0; i < table.rowCount; i++) {
            count += table.rows[i].countLateAt(table.time + ticks);
        }
        return count;
    }

    // ---- what would be ----------------------------------------------------------------------

    public int stateIf(int worker, int row, int result)
            throws IndexOutOfBoundsException, IllegalArgumentException, IllegalStateException {
        requireWorker(worker);
        requireRow(row);
        requireRange(result, 0, MAX_RESULT);
        int index = requireInWork(worker, row);
        verdict.judge(table, table.rows[row], index, result);
        return verdict.state;
    }

    public int trustIf(int worker, int row, int result, int other)
            throws IndexOutOfBoundsException, IllegalArgumentException, IllegalStateException {
        requireWorker(worker);
        requireRow(row);
        requireWorker(other);
        requireRange(result, 0, MAX_RESULT);
        int index = requireInWork(worker, row);
        Row asked = table.rows[row];
        verdict.judge(table, asked, index, result);
        int trust = table.workers[other].trust;
        int otherIndex = asked.takingBy(other);
        return otherIndex == NONE ? trust : withinTrust(trust + verdict.change[otherIndex]);
    }

    public int finishing(int worker, int row) throws IndexOutOfBoundsException, IllegalStateException {
        requireWorker(worker);
        requireRow(row);
        int index = requireInWork(worker, row);
        int count = 0;
        for (int result = 0; result <= MAX_RESULT; result++) {
            verdict.judge(table, table.rows[row], index, result);
            if (verdict.state == FINISHED) {
                count++;
            }
        }
        return count;
    }

    // ---- the table as a whole ---------------------------------------------------------------

    public int lost() {
        int set = 0;
        for (int i = 0; i < table.rowCount; i++) {
            if (table.rows[i].state == ASIDE || table.hasNobodyFor(i)) {
                set |= 1 << i;
            }
        }
        return set;
    }

    public int finishedOf(int size) throws IllegalArgumentException {
        requireRange(size, 1, MAX_SIZE);
        int count = 0;
        for (int i = 0; i < table.rowCount; i++) {
            if (table.rows[i].state == FINISHED && table.rows[i].size == size) {
                count++;
            }
        }
        return count;
    }

    public int left() {
        int sum = 0;
        for (int i = 0; i < table.rowCount; i++) {
            if (!table.rows[i].isClosed()) {
                sum += table.rows[i].size;
            }
        }
        return sum;
    }

    public int leader() {
        int best = NONE;
        for (int i = 0; i < table.workerCount; i++) {
            if (best == NONE || table.workers[i].points > table.workers[best].points) {
                best = i;
            }
        }
        return best;
    }

    public int place(int worker) throws IndexOutOfBoundsException {
        requireWorker(worker);
        int ahead = 0;
        for (int i = 0; i < table.workerCount; i++) {
            if (table.workers[i].points > table.workers[worker].points) {
                ahead++;
            }
        }
        return 1 + ahead;
    }

    public int partner(int worker) throws IndexOutOfBoundsException {
        requireWorker(worker);
        int best = NONE;
        int most = 0;
        for (int i = 0; i < table.workerCount; i++) {
            int count = table.countCompared(worker, i, true);
            if (count > most) {
                most = count;
                best = i;
            }
        }
        return best;
    }

    // ---- changes ----------------------------------------------------------------------------

    public int take(int worker) throws IndexOutOfBoundsException, IllegalStateException {
        requireWorker(worker);
        int row = table.chosenRow(worker);
        if (row == NONE) {
            throw new IllegalStateException("no row that the worker can take");
        }
        history.remember(table);
        table.startTaking(worker, row);
        return row;
    }

    public int takeRow(int worker, int row) throws IndexOutOfBoundsException, IllegalStateException {
        requireWorker(worker);
        requireRow(row);
        if (table.reasonAgainst(worker, row) != 0) {
            throw new IllegalStateException("the worker cannot take the row");
        }
        history.remember(table);
        return table.startTaking(worker, row);
    }

    public int deliver(int worker, int row, int result)
            throws IndexOutOfBoundsException, IllegalArgumentException, IllegalStateException {
        requireWorker(worker);
        requireRow(row);
        requireRange(result, 0, MAX_RESULT);
        int index = requireInWork(worker, row);
        history.remember(table);
        verdict.judge(table, table.rows[row], index, result);
        table.enterResult(row, index, result);
        table.settle(row, verdict);
        return table.rows[row].state;
    }

    public int pass(int ticks) throws IllegalArgumentException {
        requireRange(ticks, 1, MAX_TICKS);
        history.remember(table);
        return table.letPass(ticks);
    }

    public boolean audit(int row, int number)
            throws IndexOutOfBoundsException, IllegalArgumentException, IllegalStateException {
        requireRow(row);
        requireRange(number, 0, MAX_RESULT);
        Row asked = table.rows[row];
        if (asked.state != FINISHED || asked.audited) {
            throw new IllegalStateException("the row is not finished, or was audited");
        }
        history.remember(table);
        return table.examine(asked, number);
    }

    public int setAside(int row) throws IndexOutOfBoundsException, IllegalStateException {
        requireRow(row);
        if (table.rows[row].isClosed()) {
            throw new IllegalStateException("the row is finished or set aside");
        }
        history.remember(table);
        return table.giveUp(table.rows[row]);
    }

    public int pardon(int worker) throws IndexOutOfBoundsException, IllegalStateException {
        requireWorker(worker);
        if (!table.isSuspended(worker)) {
            throw new IllegalStateException("the worker is not suspended");
        }
        history.remember(table);
        int previous = table.workers[worker].trust;
        table.workers[worker].trust = table.least;
        return previous;
    }

    public boolean bar(int worker, int other, boolean on)
            throws IndexOutOfBoundsException, IllegalArgumentException {
        requireWorker(worker);
        requireWorker(other);
        if (worker == other) {
            throw new IllegalArgumentException("two different workers are needed");
        }
        history.remember(table);
        boolean previous = table.areKeptApart(worker, other);
        table.tellApart(worker, other, on);
        return previous;
    }

    public int addRows(int many, int size) throws IllegalArgumentException, IllegalStateException {
        requireRange(many, 1, MAX_ROWS);
        requireRange(size, 1, MAX_SIZE);
        if (!table.hasRoomFor(many)) {
            throw new IllegalStateException("too many rows");
        }
        history.remember(table);
        int first = table.rowCount;
        table.putRows(many, size);
        return first;
    }

    public int setTable(int what, int value) throws IllegalArgumentException {
        requireRange(what, 0, 2);
        requireSetting(what, value);
        int previous = property(3 + what);
        history.remember(table);
        switch (what) {
            case 0:
                table.tolerance = value;
                break;
            case 1:
                table.patience = value;
                break;
            default:
                table.least = value;
                break;
        }
        return previous;
    }

    // ---- slots and undo ---------------------------------------------------------------------

    public int keep(int slot) throws IndexOutOfBoundsException {
        requireSlot(slot);
        slots[slot].copyFrom(table);
        slotFilled[slot] = true;
        return table.time;
    }

    public int restore(int slot) throws IndexOutOfBoundsException, IllegalStateException {
        requireSlot(slot);
        if (!slotFilled[slot]) {
            throw new IllegalStateException("nothing is kept in the slot");
        }
        history.remember(table);
        table.copyFrom(slots[slot]);
        return table.time;
    }

    public int undo() throws IllegalStateException {
        if (history.count == 0) {
            throw new IllegalStateException("nothing to undo");
        }
        history.bringBack(table);
        return history.count;
    }

    public int undoCount() {
        return history.count;
    }

    // ---- the output buffer ------------------------------------------------------------------

    public int writeRows() {
        output.setLength(0);
        for (int i = 0; i < table.rowCount; i++) {
            separate(i);
            putRowState(table.rows[i]);
        }
        return output.length();
    }

    public int writeRow(int row) throws IndexOutOfBoundsException {
        requireRow(row);
        output.setLength(0);
        for (int i = 0; i < table.rows[row].takingCount; i++) {
            separate(i);
            putTaking(table.rows[row], i);
        }
        return output.length();
    }

    public int writeWorkers() {
        output.setLength(0);
        for (int i = 0; i < table.workerCount; i++) {
            separate(i);
            putWorker(i);
        }
        return output.length();
    }

    public int outputByte(int index) throws NoSuchElementException {
        if (index < 0 || index >= output.length()) {
            throw new NoSuchElementException("no such byte");
        }
        return output.charAt(index);
    }

    // ---- tests of arguments -----------------------------------------------------------------

    private static void requireRange(int value, int least, int greatest) {
        if (value < least || value > greatest) {
            throw new IllegalArgumentException("a value is out of range");
        }
    }

    private static void requireSetting(int what, int value) {
        switch (what) {
            case 0:
                requireRange(value, 0, MAX_TOLERANCE);
                break;
            case 1:
                requireRange(value, 1, MAX_PATIENCE);
                break;
            default:
                requireRange(value, 0, MAX_LEAST);
                break;
        }
    }

    private static void requireSlot(int slot) {
        if (slot < 0 || slot >= SLOTS) {
            throw new IndexOutOfBoundsException("no such slot");
        }
    }

    private void requireWorker(int worker) {
        if (worker < 0 || worker >= table.workerCount) {
            throw new IndexOutOfBoundsException("no such worker");
        }
    }

    private void requireRow(int row) {
        if (row < 0 || row >= table.rowCount) {
            throw new IndexOutOfBoundsException("no such row");
        }
    }

    /** Returns the index of the taking that the worker has in work at the row. */
    private int requireInWork(int worker, int row) {
        int index = table.rows[row].takingBy(worker);
        if (index == NONE || !table.rows[row].isInWork(index)) {
            throw new IllegalStateException("the worker has not this row in work");
        }
        return index;
    }

    // ---- parts of the calls above -----------------------------------------------------------

    private void separate(int index) {
        if (index > 0) {
            output.append(' ');
        }
    }

    private void putRowState(Row row) {
        switch (row.state) {
            case OPEN:
                output.append('o');
                break;
            case DISPUTED:
                output.append('d');
                break;
            case FINISHED:
                output.append('f');
                output.append(row.result);
                break;
            default:
                output.append('a');
                break;
        }
        if (row.audited) {
            output.append('*');
        }
    }

    private void putTaking(Row row, int index) {
        output.append(table.workers[row.workerAt(index)].name);
        if (row.isInWork(index)) {
            output.append('@');
            output.append(row.dueAt(index));
        } else {
            output.append('=');
            output.append(row.resultAt(index));
        }
    }

    private void putWorker(int worker) {
        Worker written = table.workers[worker];
        output.append(written.name);
        output.append(':');
        output.append(written.trust);
        if (table.isSuspended(worker)) {
            output.append('!');
        }
        output.append('/');
        output.append(written.points);
    }

    private static int withinTrust(int trust) {
        return Math.max(0, Math.min(MAX_TRUST, trust));
    }

    // ---- classes inside ---------------------------------------------------------------------

    /** The input buffer. */
    private static final class Input {
        final int[] bytes = new int[MAX_INPUT];
        int length = 0;
        private final StringBuilder text = new StringBuilder();

        void addFourBytes(int four) {
            if (length + BYTES_PER_INT > MAX_INPUT) {
                return;
            }
            for (int shift = 24; shift >= 0; shift -= 8) {
                bytes[length] = four >>> shift & 255;
                length++;
            }
        }

        boolean spells(int start, int end, String word) {
            if (start < 0 || end > length || end - start != word.length()) {
                return false;
            }
            for (int i = 0; i < word.length(); i++) {
                if (bytes[start + i] != word.charAt(i)) {
                    return false;
                }
            }
            return true;
        }

        String textBetween(int start, int end) {
            text.setLength(0);
            for (int i = Math.max(0, start); i < Math.min(end, length); i++) {
                text.append((char) bytes[i]);
            }
            return text.toString();
        }
    }

    private static final class Worker {
        String name = "";
        int team;
        int quota;
        int trust;
        int inWork;
        int made;
        int delivered;
        int finished;
        int late;
        int points;

        void begin(String newName, int newTeam, int newQuota, int newTrust) {
            name = newName;
            team = newTeam;
            quota = newQuota;
            trust = newTrust;
            inWork = 0;
            made = 0;
            delivered = 0;
            finished = 0;
            late = 0;
            points = 0;
        }

        void copyFrom(Worker other) {
            name = other.name;
            team = other.team;
            quota = other.quota;
            trust = other.trust;
            inWork = other.inWork;
            made = other.made;
            delivered = other.delivered;
            finished = other.finished;
            late = other.late;
            points = other.points;
        }

        void changeTrust(int by) {
            trust = withinTrust(trust + by);
        }
    }

    /** A row; the numbers of its takings stand in one array, for there are many rows, and each array takes room. */
    private static final class Row {
        private static final int WORKER = 0;
        private static final int RESULT = 1;
        private static final int DUE = 2;
        private static final int NUMBERS_PER_TAKING = 3;

        int size;
        int state;
        int result = NONE;
        boolean audited;
        int rightNumber = NONE;
        int tookBefore;
        int firstFinisher = NONE;
        int secondFinisher = NONE;
        int takingCount;
        private final int[] takings = new int[MAX_TAKINGS * NUMBERS_PER_TAKING];

        void begin(int newSize) {
            size = newSize;
            state = OPEN;
            result = NONE;
            audited = false;
            rightNumber = NONE;
            tookBefore = 0;
            firstFinisher = NONE;
            secondFinisher = NONE;
            takingCount = 0;
        }

        void copyFrom(Row other) {
            size = other.size;
            state = other.state;
            result = other.result;
            audited = other.audited;
            rightNumber = other.rightNumber;
            tookBefore = other.tookBefore;
            firstFinisher = other.firstFinisher;
            secondFinisher = other.secondFinisher;
            takingCount = other.takingCount;
            System.arraycopy(other.takings, 0, takings, 0, takings.length);
        }

        boolean isClosed() {
            return state == FINISHED || state == ASIDE;
        }

        int workerAt(int index) {
            return takings[index * NUMBERS_PER_TAKING + WORKER];
        }

        int resultAt(int index) {
            return takings[index * NUMBERS_PER_TAKING + RESULT];
        }

        int dueAt(int index) {
            return takings[index * NUMBERS_PER_TAKING + DUE];
        }

        boolean isInWork(int index) {
            return resultAt(index) == NONE;
        }

        boolean isLateAt(int index, int time) {
            return isInWork(index) && dueAt(index) < time;
        }

        int missingWorkers() {
            if (isClosed()) {
                return 0;
            }
            int wanted = state == DISPUTED ? 3 : 2;
            return Math.max(0, wanted - takingCount);
        }

        /** Returns the index of the worker's taking; a worker has at most one, for it cannot take a row again. */
        int takingBy(int worker) {
            for (int i = 0; i < takingCount; i++) {
                if (workerAt(i) == worker) {
                    return i;
                }
            }
            return NONE;
        }

        int resultBy(int worker) {
            int index = takingBy(worker);
            return index == NONE ? NONE : resultAt(index);
        }

        int leastDue() {
            int least = NONE;
            for (int i = 0; i < takingCount; i++) {
                if (isInWork(i) && (least == NONE || dueAt(i) < least)) {
                    least = dueAt(i);
                }
            }
            return least;
        }

        int countLateAt(int time) {
            int count = 0;
            for (int i = 0; i < takingCount; i++) {
                if (isLateAt(i, time)) {
                    count++;
                }
            }
            return count;
        }

        void addTaking(int worker, int due) {
            if (takingCount >= MAX_TAKINGS) {
                return;
            }
            setTaking(takingCount, worker, NONE, due);
            takingCount++;
            tookBefore |= 1 << worker;
        }

        void enterResult(int index, int newResult) {
            takings[index * NUMBERS_PER_TAKING + RESULT] = newResult;
        }

        void moveTaking(int from, int to) {
            setTaking(to, workerAt(from), resultAt(from), dueAt(from));
        }

        private void setTaking(int index, int worker, int newResult, int due) {
            takings[index * NUMBERS_PER_TAKING + WORKER] = worker;
            takings[index * NUMBERS_PER_TAKING + RESULT] = newResult;
            takings[index * NUMBERS_PER_TAKING + DUE] = due;
        }
    }

    /** All that undo() restores, but what can be undone, and the rules by which it changes. */
    private static final class Table {
        int tolerance = 0;
        int patience = 10;
        int least = 5;
        int time = 0;
        int workerCount = 0;
        int rowCount = 0;
        final Worker[] workers = new Worker[MAX_WORKERS];
        final Row[] rows = new Row[MAX_ROWS];
        final int[] strikeCount = new int[MAX_WORKERS * MAX_WORKERS];
        final int[] toldApart = new int[MAX_WORKERS * MAX_WORKERS];

        Table() {
            for (int i = 0; i < MAX_WORKERS; i++) {
                workers[i] = new Worker();
            }
            for (int i = 0; i < MAX_ROWS; i++) {
                rows[i] = new Row();
            }
        }

        /** Empties the table; the parser sets the three numbers of the first statement itself. */
        void clear() {
            time = 0;
            workerCount = 0;
            rowCount = 0;
            Arrays.fill(strikeCount, 0);
            Arrays.fill(toldApart, 0);
        }

        void copyFrom(Table other) {
            tolerance = other.tolerance;
            patience = other.patience;
            least = other.least;
            time = other.time;
            workerCount = other.workerCount;
            rowCount = other.rowCount;
            for (int i = 0; i < workerCount; i++) {
                workers[i].copyFrom(other.workers[i]);
            }
            for (int i = 0; i < rowCount; i++) {
                rows[i].copyFrom(other.rows[i]);
            }
            System.arraycopy(other.strikeCount, 0, strikeCount, 0, strikeCount.length);
            System.arraycopy(other.toldApart, 0, toldApart, 0, toldApart.length);
        }

        void putWorker(String name, int team, int quota, int trust) {
            if (workerCount >= MAX_WORKERS) {
                return;
            }
            workers[workerCount].begin(name, team, quota, trust);
            workerCount++;
        }

        boolean hasRoomFor(int many) {
            return many <= MAX_ROWS - rowCount;
        }

        void putRows(int many, int size) {
            for (int i = 0; i < many && rowCount < MAX_ROWS; i++) {
                rows[rowCount].begin(size);
                rowCount++;
            }
        }

        int workerNamed(Input input, int start, int end) {
            for (int i = 0; i < workerCount; i++) {
                if (input.spells(start, end, workers[i].name)) {
                    return i;
                }
            }
            return NONE;
        }

        /** One index for both orders of a pair; that of a worker with itself is never written. */
        static int pairIndex(int worker, int other) {
            return worker < other ? worker * MAX_WORKERS + other : other * MAX_WORKERS + worker;
        }

        void tellApart(int worker, int other, boolean apart) {
            int pair = pairIndex(worker, other);
            toldApart[pair] = apart ? 1 : 0;
            strikeCount[pair] = 0;
        }

        boolean areKeptApart(int worker, int other) {
            int pair = pairIndex(worker, other);
            return toldApart[pair] != 0 || strikeCount[pair] >= STRIKES_TO_PART;
        }

        boolean agree(int number, int other) {
            return Math.abs(number - other) <= tolerance;
        }

        boolean isSuspended(int worker) {
            return workers[worker].trust < least;
        }

        int countAudited() {
            int count = 0;
            for (int i = 0; i < rowCount; i++) {
                if (rows[i].audited) {
                    count++;
                }
            }
            return count;
        }

        int countInState(int state) {
            int count = 0;
            for (int i = 0; i < rowCount; i++) {
                if (rows[i].state == state) {
                    count++;
                }
            }
            return count;
        }

        int countCompared(int worker, int other, boolean agreeing) {
            if (worker == other) {
                return 0;
            }
            int count = 0;
            for (int i = 0; i < rowCount; i++) {
                int one = rows[i].resultBy(worker);
                int two = rows[i].resultBy(other);
                if (one != NONE && two != NONE && agree(one, two) == agreeing) {
                    count++;
                }
            }
            return count;
        }

        // -- who can take what --

        int reasonAgainst(int worker, int row) {
            if (isSuspended(worker)) {
                return SUSPENDED;
            }
            if (workers[worker].inWork >= workers[worker].quota) {
                return QUOTA_FULL;
            }
            if (rows[row].missingWorkers() == 0) {
                return NOT_NEEDED;
            }
            return clashWith(worker, rows[row]);
        }

        /** Returns which of the reasons 4 to 6 applies first, 0 if none does. */
        int clashWith(int worker, Row row) {
            if ((row.tookBefore & 1 << worker) != 0) {
                return TOOK_BEFORE;
            }
            int clash = 0;
            for (int i = 0; i < row.takingCount; i++) {
                int other = row.workerAt(i);
                if (workers[other].team == workers[worker].team) {
                    return SAME_TEAM;
                }
                if (areKeptApart(worker, other)) {
                    clash = KEPT_APART;
                }
            }
            return clash;
        }

        int rowsFor(int worker) {
            int set = 0;
            for (int i = 0; i < rowCount; i++) {
                if (reasonAgainst(worker, i) == 0) {
                    set |= 1 << i;
                }
            }
            return set;
        }

        int workersFor(int row) {
            int set = 0;
            for (int i = 0; i < workerCount; i++) {
                if (reasonAgainst(i, row) == 0) {
                    set |= 1 << i;
                }
            }
            return set;
        }

        int chosenRow(int worker) {
            int offered = rowsFor(worker);
            int best = NONE;
            for (int i = 0; i < rowCount; i++) {
                boolean mayHave = (offered & 1 << i) != 0;
                if (mayHave && (best == NONE || urgency(rows[i]) > urgency(rows[best]))) {
                    best = i;
                }
            }
            return best;
        }

        static int urgency(Row row) {
            if (row.state == DISPUTED) {
                return 2;
            }
            return row.takingCount > 0 ? 1 : 0;
        }

        boolean hasNobodyFor(int row) {
            if (rows[row].missingWorkers() == 0) {
                return false;
            }
            for (int i = 0; i < workerCount; i++) {
                if (clashWith(i, rows[row]) == 0) {
                    return false;
                }
            }
            return true;
        }

        int mostTrustedPair(int able) {
            int best = NONE;
            int most = NONE;
            for (int a = 0; a < workerCount; a++) {
                for (int b = a + 1; b < workerCount; b++) {
                    boolean bothAble = (able & 1 << a) != 0 && (able & 1 << b) != 0;
                    int trust = workers[a].trust + workers[b].trust;
                    if (bothAble && trust > most && mayBeginTogether(a, b)) {
                        most = trust;
                        best = PAIR_FACTOR * a + b;
                    }
                }
            }
            return best;
        }

        boolean mayBeginTogether(int a, int b) {
            return workers[a].team != workers[b].team && !areKeptApart(a, b);
        }

        /**
         * How many workers can have rows at once follows from the shortest group of them: of a group, only as many
         * get a row as there are rows for any of it, and all others may get one (the theorem of Koenig and Ore).
         */
        int greatestMatching() {
            int[] offered = new int[MAX_WORKERS];
            for (int i = 0; i < workerCount; i++) {
                offered[i] = rowsFor(i);
            }
            int least = workerCount;
            for (int group = 0; group < 1 << workerCount; group++) {
                int together = 0;
                for (int i = 0; i < workerCount; i++) {
                    if ((group & 1 << i) != 0) {
                        together |= offered[i];
                    }
                }
                least = Math.min(least, workerCount - Integer.bitCount(group) + Integer.bitCount(together));
            }
            return least;
        }

        // -- takings and results --

        int startTaking(int worker, int row) {
            int due = time + patience;
            rows[row].addTaking(worker, due);
            workers[worker].inWork++;
            workers[worker].made++;
            return due;
        }

        void enterResult(int row, int index, int result) {
            Worker worker = workers[rows[row].workerAt(index)];
            worker.inWork--;
            worker.delivered++;
            rows[row].enterResult(index, result);
        }

        void settle(int number, Verdict verdict) {
            Row row = rows[number];
            row.state = verdict.state;
            for (int i = 0; i < row.takingCount; i++) {
                workers[row.workerAt(i)].changeTrust(verdict.change[i]);
            }
            if (verdict.state == FINISHED) {
                row.result = verdict.result;
                row.firstFinisher = row.workerAt(verdict.earlier);
                row.secondFinisher = row.workerAt(verdict.later);
                reward(row.firstFinisher, row.size);
                reward(row.secondFinisher, row.size);
            }
        }

        void reward(int worker, int size) {
            workers[worker].finished++;
            workers[worker].points += size;
        }

        /** Goes in one step: takings that get late only lower trust, so the ticks between cannot be told apart. */
        int letPass(int ticks) {
            time += ticks;
            int count = 0;
            for (int i = 0; i < rowCount; i++) {
                count += dropWork(rows[i], true);
            }
            return count;
        }

        /** Takings in work are gone: only the late ones, at the cost of their workers' trust, or all. */
        int dropWork(Row row, boolean onlyLate) {
            int kept = 0;
            int before = row.takingCount;
            for (int i = 0; i < before; i++) {
                if (onlyLate ? row.isLateAt(i, time) : row.isInWork(i)) {
                    endWork(workers[row.workerAt(i)], onlyLate);
                } else {
                    row.moveTaking(i, kept);
                    kept++;
                }
            }
            row.takingCount = kept;
            return before - kept;
        }

        static void endWork(Worker worker, boolean late) {
            worker.inWork--;
            if (late) {
                worker.late++;
                worker.changeTrust(-1);
            }
        }

        int giveUp(Row row) {
            row.state = ASIDE;
            return dropWork(row, false);
        }

        // -- audits --

        boolean examine(Row row, int number) {
            for (int i = 0; i < row.takingCount; i++) {
                workers[row.workerAt(i)].changeTrust(agree(row.resultAt(i), number) ? 2 : -4);
            }
            row.audited = true;
            row.rightNumber = number;
            if (agree(row.result, number)) {
                return true;
            }
            strikeCount[pairIndex(row.firstFinisher, row.secondFinisher)]++;
            row.result = number;
            return false;
        }

        int riskOf(Row row) {
            if (row.state != FINISHED) {
                return NONE;
            }
            return Math.min(workers[row.firstFinisher].trust, workers[row.secondFinisher].trust);
        }

        boolean isRiskier(Row row, Row other) {
            int difference = riskOf(row) - riskOf(other);
            return difference < 0 || difference == 0 && row.size > other.size;
        }
    }

    /** What a row becomes by one more result; it changes nothing, so that it also answers what would be. */
    private static final class Verdict {
        int state;
        int result;
        int earlier;
        int later;
        final int[] change = new int[MAX_TAKINGS];
        private final int[] results = new int[MAX_TAKINGS];
        private final int[] trusts = new int[MAX_TAKINGS];

        void judge(Table table, Row row, int index, int newResult) {
            state = row.state;
            result = NONE;
            earlier = 0;
            later = 0;
            for (int i = 0; i < MAX_TAKINGS; i++) {
                boolean there = i < row.takingCount;
                change[i] = 0;
                results[i] = there ? row.resultAt(i) : NONE;
                trusts[i] = there ? table.workers[row.workerAt(i)].trust : 0;
            }
            results[index] = newResult;
            if (row.state == OPEN) {
                judgePair(table);
            } else if (row.state == DISPUTED) {
                judgeThird(table);
            }
        }

        private void judgePair(Table table) {
            if (results[0] == NONE || results[1] == NONE) {
                return;
            }
            if (table.agree(results[0], results[1])) {
                finishBy(0, 1);
            } else {
                state = DISPUTED;
            }
        }

        private void judgeThird(Table table) {
            boolean agreesWithFirst = table.agree(results[0], results[2]);
            boolean agreesWithSecond = table.agree(results[1], results[2]);
            if (!agreesWithFirst && !agreesWithSecond) {
                state = ASIDE;
                Arrays.fill(change, -1);
            } else if (Math.abs(results[0] - results[2]) <= Math.abs(results[1] - results[2])) {
                finishBy(0, 2);
                change[1] = agreesWithSecond ? 0 : -3;
            } else {
                finishBy(1, 2);
                change[0] = agreesWithFirst ? 0 : -3;
            }
        }

        private void finishBy(int one, int two) {
            state = FINISHED;
            earlier = one;
            later = two;
            result = trusts[two] > trusts[one] ? results[two] : results[one];
            change[one] = 1;
            change[two] = 1;
        }
    }

    /** The tables as they were before the latest calls that can be undone, in a ring. */
    private static final class History {
        int count = 0;
        private int next = 0;
        private final Table[] tables = new Table[UNDO_STEPS];

        History() {
            for (int i = 0; i < UNDO_STEPS; i++) {
                tables[i] = new Table();
            }
        }

        void remember(Table table) {
            tables[next].copyFrom(table);
            next = next + 1 < UNDO_STEPS ? next + 1 : 0;
            count = Math.min(UNDO_STEPS, count + 1);
        }

        void bringBack(Table table) {
            next = next > 0 ? next - 1 : UNDO_STEPS - 1;
            table.copyFrom(tables[next]);
            count--;
        }
    }

    private enum Keyword {
        TABLE("table"), TOLERANCE("tolerance"), PATIENCE("patience"), LEAST("least"), WORKER("worker"), TEAM("team"),
        QUOTA("quota"), TRUST("trust"), ROWS("rows"), SIZE("size"), BAR("bar");

        final String text;

        Keyword(String text) {
            this.text = text;
        }
    }

    /**
     * Reads the text of the input buffer into a draft. Each part of the grammar answers whether it stood there; one
     * that did not has told its error, and the ones before it hand the answer up.
     */
    private static final class Parser {
        private static final int WORD = 0;
        private static final int NUMBER = 1;
        private static final int SYMBOL = 2;
        private static final int END = 3;

        private static final int CANNOT_STAND = 1;
        private static final int OUT_OF_RANGE = 2;
        private static final int WRONG_NAME = 3;
        private static final int NO_ROOM = 4;

        private static final int BEYOND_EVERY_RANGE = 1000;

        private static final Keyword[] KEYWORDS = Keyword.values();

        int code;
        int codePosition;
        final Input input = new Input();
        final Table draft = new Table();
        private int kind;
        private int start;
        private int end;
        private int value;
        private int accepted;

        boolean parseText() {
            code = 0;
            codePosition = NONE;
            end = 0;
            draft.clear();
            nextToken();
            if (!readTableStatement()) {
                return false;
            }
            for (int i = 0; i < MAX_INPUT && kind != END; i++) {
                if (!readStatement()) {
                    return false;
                }
            }
            return true;
        }

        // -- statements --

        private boolean readTableStatement() {
            if (!readKeyword(Keyword.TABLE) || !readKeyword(Keyword.TOLERANCE) || !readNumber(0, MAX_TOLERANCE)) {
                return false;
            }
            draft.tolerance = accepted;
            if (!readKeyword(Keyword.PATIENCE) || !readNumber(1, MAX_PATIENCE)) {
                return false;
            }
            draft.patience = accepted;
            if (!readKeyword(Keyword.LEAST) || !readNumber(0, MAX_LEAST)) {
                return false;
            }
            draft.least = accepted;
            return readSemicolon();
        }

        private boolean readStatement() {
            if (isAt(Keyword.WORKER)) {
                return readWorkerStatement();
            }
            if (isAt(Keyword.ROWS)) {
                return readRowsStatement();
            }
            if (isAt(Keyword.BAR)) {
                return readBarStatement();
            }
            return fail(CANNOT_STAND);
        }

        private boolean readWorkerStatement() {
            if (draft.workerCount >= MAX_WORKERS) {
                return fail(NO_ROOM);
            }
            nextToken();
            if (!isAtName()) {
                return fail(CANNOT_STAND);
            }
            if (draft.workerNamed(input, start, end) != NONE) {
                return fail(WRONG_NAME);
            }
            String name = input.textBetween(start, end);
            nextToken();
            if (!readKeyword(Keyword.TEAM) || !readNumber(0, MAX_TEAM)) {
                return false;
            }
            int team = accepted;
            if (!readKeyword(Keyword.QUOTA) || !readNumber(1, MAX_QUOTA)) {
                return false;
            }
            int quota = accepted;
            int trust = USUAL_TRUST;
            if (isAt(Keyword.TRUST)) {
                nextToken();
                if (!readNumber(0, MAX_TRUST)) {
                    return false;
                }
                trust = accepted;
            }
            draft.putWorker(name, team, quota, trust);
            return readSemicolon();
        }

        private boolean readRowsStatement() {
            nextToken();
            if (!isAtNumber(1, MAX_ROWS)) {
                return false;
            }
            if (!draft.hasRoomFor(value)) {
                return fail(NO_ROOM);
            }
            int many = value;
            nextToken();
            if (!readKeyword(Keyword.SIZE) || !readNumber(1, MAX_SIZE)) {
                return false;
            }
            draft.putRows(many, accepted);
            return readSemicolon();
        }

        private boolean readBarStatement() {
            nextToken();
            if (!readKnownName()) {
                return false;
            }
            int first = accepted;
            if (!isAtName()) {
                return fail(CANNOT_STAND);
            }
            int second = draft.workerNamed(input, start, end);
            if (second == NONE || second == first || draft.areKeptApart(first, second)) {
                return fail(WRONG_NAME);
            }
            nextToken();
            draft.tellApart(first, second, true);
            return readSemicolon();
        }

        // -- parts of statements --

        private boolean readKeyword(Keyword keyword) {
            if (!isAt(keyword)) {
                return fail(CANNOT_STAND);
            }
            nextToken();
            return true;
        }

        private boolean readNumber(int least, int greatest) {
            if (!isAtNumber(least, greatest)) {
                return false;
            }
            accepted = value;
            nextToken();
            return true;
        }

        private boolean readKnownName() {
            if (!isAtName()) {
                return fail(CANNOT_STAND);
            }
            accepted = draft.workerNamed(input, start, end);
            if (accepted == NONE) {
                return fail(WRONG_NAME);
            }
            nextToken();
            return true;
        }

        private boolean readSemicolon() {
            if (kind != SYMBOL || input.bytes[start] != ';') {
                return fail(CANNOT_STAND);
            }
            nextToken();
            return true;
        }

        private boolean isAtNumber(int least, int greatest) {
            if (kind != NUMBER) {
                return fail(CANNOT_STAND);
            }
            if (value < least || value > greatest) {
                return fail(OUT_OF_RANGE);
            }
            return true;
        }

        private boolean isAt(Keyword keyword) {
            return kind == WORD && input.spells(start, end, keyword.text);
        }

        private boolean isAtName() {
            if (kind != WORD || end - start > MAX_NAME) {
                return false;
            }
            for (Keyword keyword : KEYWORDS) {
                if (isAt(keyword)) {
                    return false;
                }
            }
            return true;
        }

        private boolean fail(int newCode) {
            code = newCode;
            codePosition = start;
            return false;
        }

        // -- tokens --

        /** Goes to the token behind the present one. */
        private void nextToken() {
            start = end;
            while (start < input.length && isBlank(input.bytes[start])) {
                start++;
            }
            end = start;
            kind = kindAt(start);
            if (kind == SYMBOL) {
                end = start + 1;
                return;
            }
            while (end < input.length && kindAt(end) == kind) {
                end++;
            }
            if (kind == NUMBER) {
                readDigits();
            }
        }

        /** Stops the value above every range, so that a number of any length is simply too great. */
        private void readDigits() {
            value = 0;
            for (int i = start; i < end && value < BEYOND_EVERY_RANGE; i++) {
                value = value * 10 + input.bytes[i] - '0';
            }
        }

        private int kindAt(int position) {
            if (position >= input.length) {
                return END;
            }
            int sign = input.bytes[position];
            if (sign >= 'a' && sign <= 'z') {
                return WORD;
            }
            return sign >= '0' && sign <= '9' ? NUMBER : SYMBOL;
        }

        private static boolean isBlank(int sign) {
            return sign == ' ' || sign == '\n';
        }
    }
}
