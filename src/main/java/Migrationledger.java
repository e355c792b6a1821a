/** A runner of schema changes on a live table. */
public final class Migrationledger {
    private static final int ROWS = 40;
    private static final int COLUMNS = 3;
    private static final int MOST_VALUE = 1000000000;
    private static final int ABSENT = -1;

    private static final int MOST_CHANGES = 12;
    private static final int ADDS = 0;
    private static final int MULTIPLIES = 1;
    private static final int EXCHANGES = 2;
    private static final int MOST_ADDED = 1000;
    private static final int MOST_FACTOR = 9;

    private static final int PENDING = 0;
    private static final int RUNNING = 1;
    private static final int DONE = 2;
    private static final int BEING_UNDONE = 3;

    private static final int WORKERS = 4;
    private static final int NOBODY = -1;
    private static final int MOST_LEASE = 100;
    private static final int MOST_TICKS = 1000;

    private static final int BLOCKED = 100;

    private final ChangeList list = new ChangeList();
    private final Table table = new Table();
    private final Lock lock = new Lock();
    /** The one row on which changes are tried before the table gets it; made once to keep the room small. */
    private final int[] tried = new int[COLUMNS];
    private int done;
    /** The state of the change behind the done ones: only that one can be running or being undone. */
    private int phase = PENDING;
    private int position;

    public Migrationledger() {
    }

    // ---- changes

    public int addChange(int kind, int column, int operand)
            throws IllegalArgumentException, IllegalStateException {
        requireChangeParts(kind, column, operand);
        if (list.isFull()) {
            throw new IllegalStateException("there are 12 changes");
        }
        return list.append(kind, column, operand);
    }

    public int edit(int change, int kind, int column, int operand)
            throws IllegalArgumentException, IndexOutOfBoundsException, IllegalStateException {
        requireChangeParts(kind, column, operand);
        requireListed(change);
        if (isActive() && change == activeNumber()) {
            throw new IllegalStateException("the change is running or being undone");
        }
        list.put(change, kind, column, operand);
        return list.checksumOf(change);
    }

    public int changes() {
        return list.count();
    }

    public int checksum(int change) throws IndexOutOfBoundsException {
        requireListed(change);
        return list.checksumOf(change);
    }

    public int state(int change) throws IndexOutOfBoundsException {
        requireListed(change);
        if (change <= done) {
            return DONE;
        }
        return change == activeNumber() ? phase : PENDING;
    }

    public int level() {
        return done;
    }

    public int drifted() {
        return list.firstDrifted(done);
    }

    // ---- the table

    public int insert(int id, int first, int second, int third)
            throws IllegalArgumentException, IllegalStateException {
        requireId(id);
        requireTableValue(first);
        requireTableValue(second);
        requireTableValue(third);
        if (table.isPresent(id)) {
            throw new IllegalStateException("the row is present");
        }
        int version = versionForNewRow(id);
        table.setCell(id, 0, first);
        table.setCell(id, 1, second);
        table.setCell(id, 2, third);
        table.setVersion(id, version);
        return version;
    }

    public int write(int id, int column, int value)
            throws IllegalArgumentException, IndexOutOfBoundsException {
        requireId(id);
        requireColumn(column);
        requireTableValue(value);
        requirePresent(id);
        int before = table.cell(id, column);
        table.setCell(id, column, value);
        return before;
    }

    public int delete(int id) throws IllegalArgumentException, IndexOutOfBoundsException {
        requireId(id);
        requirePresent(id);
        int version = table.versionOf(id);
        table.setVersion(id, ABSENT);
        return version;
    }

    public int value(int id, int column) throws IllegalArgumentException, IndexOutOfBoundsException {
        requireId(id);
        requireColumn(column);
        requirePresent(id);
        return table.cell(id, column);
    }

    public int version(int id) throws IllegalArgumentException {
        requireId(id);
        return table.versionOf(id);
    }

    public int rowsAt(int version) throws IllegalArgumentException {
        if (version < 0 || version > MOST_CHANGES) {
            throw new IllegalArgumentException("a version is 0 to 12");
        }
        return table.countWithVersion(version);
    }

    public int valueAt(int id, int column, int version)
            throws IllegalArgumentException, IndexOutOfBoundsException, IllegalStateException {
        requireId(id);
        requireColumn(column);
        if (version < 0 || version > list.count()) {
            throw new IllegalArgumentException("a version is 0 up to the number of changes");
        }
        requirePresent(id);
        table.copyRow(id, tried);
        if (!bringTried(table.versionOf(id), version)) {
            throw new IllegalStateException("a change cannot be applied to the row, or undone on it");
        }
        return tried[column];
    }

    // ---- the lock

    public int take(int worker, int lease) throws IllegalArgumentException, IllegalStateException {
        requireWorker(worker);
        if (lease < 1 || lease > MOST_LEASE) {
            throw new IllegalArgumentException("a lease is 1 to 100 ticks");
        }
        requireNotCrashed(worker);
        int owner = lock.owner();
        if (owner != NOBODY && owner != worker) {
            throw new IllegalStateException("another worker has the lock");
        }
        return lock.grant(worker, lease);
    }

    public void giveBack(int worker) throws IllegalArgumentException, IllegalStateException {
        requireWorker(worker);
        requireAtWork(worker);
        lock.release();
    }

    public int holder() {
        return lock.owner();
    }

    public boolean restart(int worker) throws IllegalArgumentException, IllegalStateException {
        requireWorker(worker);
        if (!lock.hasCrashed(worker)) {
            throw new IllegalStateException("the worker has not crashed");
        }
        lock.setCrashed(worker, false);
        return lock.owner() == worker;
    }

    public int pass(int ticks) throws IllegalArgumentException {
        if (ticks < 1 || ticks > MOST_TICKS) {
            throw new IllegalArgumentException("1 to 1000 ticks pass");
        }
        return lock.advance(ticks);
    }

    // ---- applying and undoing

    public int begin(int worker) throws IllegalArgumentException, IllegalStateException {
        requireWorker(worker);
        requireAtWork(worker);
        if (isActive()) {
            throw new IllegalStateException("a change is running or being undone");
        }
        if (list.firstDrifted(done) != 0) {
            throw new IllegalStateException("a done change has drifted");
        }
        if (done >= list.count()) {
            throw new IllegalStateException("no change is pending");
        }
        phase = RUNNING;
        position = 0;
        list.recordChecksum(activeNumber());
        return activeNumber();
    }

    public int undo(int worker) throws IllegalArgumentException, IllegalStateException {
        requireWorker(worker);
        requireAtWork(worker);
        if (phase == BEING_UNDONE) {
            throw new IllegalStateException("a change is being undone");
        }
        if (phase != RUNNING) {
            requireUndoableDone();
            done--;
        }
        phase = BEING_UNDONE;
        position = ROWS;
        return activeNumber();
    }

    public int step(int worker, int batch, int crashes)
            throws IllegalArgumentException, IllegalStateException {
        requireWorker(worker);
        if (batch < 1 || batch > ROWS) {
            throw new IllegalArgumentException("a batch is 1 to 40 ids");
        }
        if (crashes < 0 || crashes > ROWS) {
            throw new IllegalArgumentException("a worker crashes behind 1 to 40 rows, or 0 for not at all");
        }
        requireAtWork(worker);
        requireActive();
        return goThrough(Math.min(batch, idsLeft()), worker, crashes);
    }

    public int cursor() throws IllegalStateException {
        requireActive();
        return position;
    }

    public float share() throws IllegalStateException {
        requireActive();
        int present = table.countPresent();
        if (present == 0) {
            throw new IllegalStateException("no row is present");
        }
        return (float) table.countFromVersion(activeNumber()) / (float) present;
    }

    // ---- the change that is running or being undone

    private boolean isActive() {
        return phase != PENDING;
    }

    /** The number of the change behind the done ones, also while none is running or being undone. */
    private int activeNumber() {
        return done + 1;
    }

    private int versionForNewRow(int id) {
        return isActive() && id < position ? activeNumber() : done;
    }

    private int idsLeft() {
        return phase == RUNNING ? ROWS - position : position;
    }

    private int positionBehind(int ids) {
        return phase == RUNNING ? position + ids : position - ids;
    }

    private int idBehind(int ids) {
        return phase == RUNNING ? position + ids : position - 1 - ids;
    }

    private int goThrough(int ids, int worker, int crashes) {
        int changed = 0;
        for (int passed = 0; passed < ids; passed++) {
            int id = idBehind(passed);
            if (!isToBeChanged(id)) {
                continue;
            }
            if (!changeRow(id)) {
                position = positionBehind(passed);
                return changed - BLOCKED;
            }
            changed++;
            if (changed == crashes) {
                lock.setCrashed(worker, true);
                return changed;
            }
        }
        position = positionBehind(ids);
        endIfAllPassed();
        return changed;
    }

    private boolean isToBeChanged(int id) {
        if (!table.isPresent(id)) {
            return false;
        }
        boolean hasIt = table.versionOf(id) >= activeNumber();
        return phase == RUNNING ? !hasIt : hasIt;
    }

    private boolean changeRow(int id) {
        int from = table.versionOf(id);
        int to = phase == RUNNING ? from + 1 : from - 1;
        table.copyRow(id, tried);
        if (!bringTried(from, to)) {
            return false;
        }
        table.storeRow(id, tried);
        table.setVersion(id, to);
        return true;
    }

    private void endIfAllPassed() {
        if (idsLeft() > 0) {
            return;
        }
        if (phase == RUNNING) {
            done++;
        }
        phase = PENDING;
    }

    /** Answers false, with the tried row left half way, if one of the changes is not possible. */
    private boolean bringTried(int from, int to) {
        for (int number = from + 1; number <= to; number++) {
            if (!list.applyTo(tried, number)) {
                return false;
            }
        }
        for (int number = from; number > to; number--) {
            if (!list.undoOn(tried, number)) {
                return false;
            }
        }
        return true;
    }

    // ---- what a call requires

    private static boolean isTableValue(long value) {
        return value >= -MOST_VALUE && value <= MOST_VALUE;
    }

    private static boolean isColumn(int column) {
        return column >= 0 && column < COLUMNS;
    }

    private static boolean isOperand(int kind, int column, int operand) {
        switch (kind) {
            case ADDS:
                return operand >= -MOST_ADDED && operand <= MOST_ADDED;
            case MULTIPLIES:
                return operand >= -MOST_FACTOR && operand <= MOST_FACTOR && operand != 0;
            default:
                return isColumn(operand) && operand != column;
        }
    }

    private static void requireChangeParts(int kind, int column, int operand) {
        if (kind < ADDS || kind > EXCHANGES) {
            throw new IllegalArgumentException("a kind is 0 to 2");
        }
        requireColumn(column);
        if (!isOperand(kind, column, operand)) {
            throw new IllegalArgumentException("the operand is out of range for the kind");
        }
    }

    private static void requireColumn(int column) {
        if (!isColumn(column)) {
            throw new IllegalArgumentException("a column is 0 to 2");
        }
    }

    private static void requireId(int id) {
        if (id < 0 || id >= ROWS) {
            throw new IllegalArgumentException("an id is 0 to 39");
        }
    }

    private static void requireTableValue(int value) {
        if (!isTableValue(value)) {
            throw new IllegalArgumentException("a value is -1000000000 to 1000000000");
        }
    }

    private static void requireWorker(int worker) {
        if (worker < 0 || worker >= WORKERS) {
            throw new IllegalArgumentException("a worker is 0 to 3");
        }
    }

    private void requireListed(int change) {
        if (!list.contains(change)) {
            throw new IndexOutOfBoundsException("there is no such change");
        }
    }

    private void requirePresent(int id) {
        if (!table.isPresent(id)) {
            throw new IndexOutOfBoundsException("the row is absent");
        }
    }

    private void requireNotCrashed(int worker) {
        if (lock.hasCrashed(worker)) {
            throw new IllegalStateException("the worker has crashed");
        }
    }

    private void requireAtWork(int worker) {
        requireNotCrashed(worker);
        if (lock.owner() != worker) {
            throw new IllegalStateException("the worker does not have the lock");
        }
    }

    private void requireActive() {
        if (!isActive()) {
            throw new IllegalStateException("no change is running or being undone");
        }
    }

    private void requireUndoableDone() {
        if (done == 0) {
            throw new IllegalStateException("no change is running and none is done");
        }
        if (list.hasDrifted(done)) {
            throw new IllegalStateException("the change that was done last has drifted");
        }
    }

    /** The changes in the order of their numbers; every change in it has passed requireChangeParts. */
    private static final class ChangeList {
        private final int[] kinds = new int[MOST_CHANGES];
        private final int[] columns = new int[MOST_CHANGES];
        private final int[] operands = new int[MOST_CHANGES];
        private final int[] recorded = new int[MOST_CHANGES];
        private int count;

        int count() {
            return count;
        }

        boolean isFull() {
            return count >= MOST_CHANGES;
        }

        boolean contains(int number) {
            return number >= 1 && number <= count;
        }

        int append(int kind, int column, int operand) {
            count++;
            put(count, kind, column, operand);
            return count;
        }

        void put(int number, int kind, int column, int operand) {
            kinds[number - 1] = kind;
            columns[number - 1] = column;
            operands[number - 1] = operand;
        }

        int checksumOf(int number) {
            int place = kinds[number - 1] * 31 + columns[number - 1];
            int content = place * 2003 + operands[number - 1] + 1001;
            return (content * 7 + number) % 65521;
        }

        void recordChecksum(int number) {
            recorded[number - 1] = checksumOf(number);
        }

        boolean hasDrifted(int number) {
            return checksumOf(number) != recorded[number - 1];
        }

        int firstDrifted(int last) {
            for (int number = 1; number <= last; number++) {
                if (hasDrifted(number)) {
                    return number;
                }
            }
            return 0;
        }

        boolean applyTo(int[] row, int number) {
            int column = columns[number - 1];
            int operand = operands[number - 1];
            // 9 times a value of the table would wrap around in an int
            long before = row[column];
            switch (kinds[number - 1]) {
                case ADDS:
                    return putResult(row, column, before + operand);
                case MULTIPLIES:
                    return putResult(row, column, before * operand);
                default:
                    return exchange(row, column, operand);
            }
        }

        boolean undoOn(int[] row, int number) {
            int column = columns[number - 1];
            int operand = operands[number - 1];
            long before = row[column];
            switch (kinds[number - 1]) {
                case ADDS:
                    return putResult(row, column, before - operand);
                case MULTIPLIES:
                    return operand != 0 && before % operand == 0
                            && putResult(row, column, before / operand);
                default:
                    return exchange(row, column, operand);
            }
        }

        private static boolean putResult(int[] row, int column, long result) {
            if (!isTableValue(result)) {
                return false;
            }
            row[column] = (int) result;
            return true;
        }

        private static boolean exchange(int[] row, int column, int other) {
            int kept = row[column];
            row[column] = row[other];
            row[other] = kept;
            return true;
        }
    }

    /** The rows by their ids; a row's cells stand one after the other, so that no row needs an object. */
    private static final class Table {
        private final int[] cells = new int[ROWS * COLUMNS];
        private final int[] versions = new int[ROWS];

        Table() {
            for (int id = 0; id < ROWS; id++) {
                versions[id] = ABSENT;
            }
        }

        boolean isPresent(int id) {
            return versions[id] != ABSENT;
        }

        int versionOf(int id) {
            return versions[id];
        }

        void setVersion(int id, int version) {
            versions[id] = version;
        }

        int cell(int id, int column) {
            return cells[id * COLUMNS + column];
        }

        void setCell(int id, int column, int value) {
            cells[id * COLUMNS + column] = value;
        }

        void copyRow(int id, int[] row) {
            for (int column = 0; column < COLUMNS; column++) {
                row[column] = cell(id, column);
            }
        }

        void storeRow(int id, int[] row) {
            for (int column = 0; column < COLUMNS; column++) {
                setCell(id, column, row[column]);
            }
        }

        int countWithVersion(int version) {
            int rows = 0;
            for (int id = 0; id < ROWS; id++) {
                if (versions[id] == version) {
                    rows++;
                }
            }
            return rows;
        }

        int countFromVersion(int version) {
            int rows = 0;
            for (int id = 0; id < ROWS; id++) {
                if (versions[id] >= version) {
                    rows++;
                }
            }
            return rows;
        }

        int countPresent() {
            return countFromVersion(0);
        }
    }

    /** The time, the lock with its lease, and which workers have crashed. */
    private static final class Lock {
        private final boolean[] crashed = new boolean[WORKERS];
        private int time;
        private int taker = NOBODY;
        private int leaseEnd;

        int owner() {
            return time < leaseEnd ? taker : NOBODY;
        }

        int grant(int worker, int lease) {
            taker = worker;
            leaseEnd = time + lease;
            return leaseEnd;
        }

        void release() {
            taker = NOBODY;
        }

        int advance(int ticks) {
            time += ticks;
            return time;
        }

        boolean hasCrashed(int worker) {
            return crashed[worker];
        }

        void setCrashed(int worker, boolean now) {
            crashed[worker] = now;
        }
    }
}
