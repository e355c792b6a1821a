/**
 * "If several apply, IllegalArgumentException goes first, then IndexOutOfBoundsException, then
 * IllegalStateException": for each method every two exceptions that can apply at once, and each
 * reason alone beside it.
 */
public final class EdgeOrderTest {
    private static final int MOST = Ledgers.MOST;
    private static final int[][] BAD_CONTENTS = {
        {-1, 0, 1}, {3, 0, 1}, {0, -1, 1}, {0, 3, 1}, {0, 0, -1001}, {0, 0, 1001}, {1, 0, 0},
        {1, 0, 10}, {1, 0, -10}, {2, 0, 0}, {2, 1, 1}, {2, 2, 2}, {2, 2, 3}, {2, 2, -1}};
    private static final int[] BAD_WORKERS = {-1, 4};

    public static void main(String[] args) {
        addChangeOnAFullList();
        editOfNoChange();
        editOfTheChangeAtWork();
        insertOfAPresentRow();
        absentRows();
        valueAtOfAnAbsentRow();
        valueAtOfAnImpossibleChange();
        takeByACrashedWorker();
        takeOfAnothersLock();
        workersThatCannotWork();
        stepWithoutTheLock();
        stepByACrashedWorker();
        stepWithNothingAtWork();
        Expect.end();
    }

    private static void addChangeOnAFullList() {
        Migrationledger x = Ledgers.withChanges(12);
        for (int[] c : BAD_CONTENTS) {
            Expect.thrown("addChange " + text(c), Expect.ARGUMENT, () -> x.addChange(c[0], c[1], c[2]));
        }
        Expect.thrown("addChange, all right", Expect.STATE, () -> x.addChange(0, 0, 1));
    }

    private static String text(int[] numbers) {
        StringBuilder made = new StringBuilder();
        for (int number : numbers) {
            made.append(made.length() == 0 ? "(" : ", ").append(number);
        }
        return made.append(')').toString();
    }

    private static void editOfNoChange() {
        int[] none = {-1, 0, 2, 13};
        Migrationledger[] all = {Ledgers.withChanges(1), Ledgers.running(0, false), Ledgers.beingUndone(40, false)};
        for (Migrationledger x : all) {
            for (int number : none) {
                for (int[] c : BAD_CONTENTS) {
                    Expect.thrown("edit " + number + " to " + text(c), Expect.ARGUMENT,
                            () -> x.edit(number, c[0], c[1], c[2]));
                }
                Expect.thrown("edit " + number, Expect.INDEX, () -> x.edit(number, 0, 0, 1));
            }
        }
    }

    private static void editOfTheChangeAtWork() {
        Migrationledger[] all = {Ledgers.running(20, false), Ledgers.beingUndone(20, false)};
        for (Migrationledger x : all) {
            for (int[] c : BAD_CONTENTS) {
                Expect.thrown("edit the one at work to " + text(c), Expect.ARGUMENT,
                        () -> x.edit(1, c[0], c[1], c[2]));
            }
            Expect.thrown("edit the one at work", Expect.STATE, () -> x.edit(1, 0, 0, 2));
            Expect.thrown("edit the one at work to what it is", Expect.STATE, () -> x.edit(1, 0, 0, 1));
        }
    }

    private static void insertOfAPresentRow() {
        Migrationledger x = new Migrationledger();
        for (int id = 0; id < Ledgers.ROWS; id += 39) {
            int i = id;
            x.insert(i, 1, 2, 3);
            Expect.thrown("first too high", Expect.ARGUMENT, () -> x.insert(i, MOST + 1, 0, 0));
            Expect.thrown("second too low", Expect.ARGUMENT, () -> x.insert(i, 0, -MOST - 1, 0));
            Expect.thrown("third too high", Expect.ARGUMENT, () -> x.insert(i, 0, 0, MOST + 1));
            Expect.thrown("all right, other values", Expect.STATE, () -> x.insert(i, MOST, -MOST, 0));
            Expect.thrown("all right, the same values", Expect.STATE, () -> x.insert(i, 1, 2, 3));
        }
    }

    private static void absentRows() {
        Migrationledger x = new Migrationledger();
        for (int id = 0; id < Ledgers.ROWS; id += 39) {
            int i = id;
            for (int column = -1; column <= 3; column++) {
                int c = column;
                Class<?> due = c < 0 || c > 2 ? Expect.ARGUMENT : Expect.INDEX;
                Expect.thrown("write " + i + " " + c, due, () -> x.write(i, c, MOST));
                Expect.thrown("write too much " + i + " " + c, Expect.ARGUMENT, () -> x.write(i, c, MOST + 1));
                Expect.thrown("write too little " + i + " " + c, Expect.ARGUMENT, () -> x.write(i, c, -MOST - 1));
                Expect.thrown("value " + i + " " + c, due, () -> x.value(i, c));
                Expect.thrown("valueAt " + i + " " + c, due, () -> x.valueAt(i, c, 0));
            }
            Expect.thrown("delete " + i, Expect.INDEX, () -> x.delete(i));
            Expect.answer("version " + i, -1, () -> x.version(i));
        }
    }

    private static void valueAtOfAnAbsentRow() {
        Migrationledger x = Ledgers.withChanges(3);
        for (int version = -1; version <= 4; version++) {
            int v = version;
            boolean inRange = v >= 0 && v <= 3;
            Expect.thrown("version " + v, inRange ? Expect.INDEX : Expect.ARGUMENT, () -> x.valueAt(7, 2, v));
            Expect.thrown("column 3, version " + v, Expect.ARGUMENT, () -> x.valueAt(7, 3, v));
            Expect.thrown("id 40, version " + v, Expect.ARGUMENT, () -> x.valueAt(40, 0, v));
        }
    }

    private static void valueAtOfAnImpossibleChange() {
        Migrationledger x = Ledgers.withChanges(2);
        x.insert(7, MOST, 0, 0);
        Expect.thrown("version 1", Expect.STATE, () -> x.valueAt(7, 0, 1));
        Expect.thrown("version 2", Expect.STATE, () -> x.valueAt(7, 0, 2));
        Expect.thrown("version 3", Expect.ARGUMENT, () -> x.valueAt(7, 0, 3));
        Expect.thrown("column -1", Expect.ARGUMENT, () -> x.valueAt(7, -1, 1));
        Expect.thrown("column 3", Expect.ARGUMENT, () -> x.valueAt(7, 3, 2));
        Expect.thrown("an absent row", Expect.INDEX, () -> x.valueAt(8, 0, 1));
        Expect.answer("version 0", MOST, () -> x.valueAt(7, 0, 0));
    }

    private static void takeByACrashedWorker() {
        Migrationledger x = Ledgers.crashed();
        Expect.thrown("lease 0", Expect.ARGUMENT, () -> x.take(0, 0));
        Expect.thrown("lease 101", Expect.ARGUMENT, () -> x.take(0, 101));
        Expect.thrown("its own lock", Expect.STATE, () -> x.take(0, 1));
        x.pass(10);
        Expect.thrown("lease 0, free lock", Expect.ARGUMENT, () -> x.take(0, 0));
        Expect.thrown("a free lock", Expect.STATE, () -> x.take(0, 100));
        x.take(1, 10);
        Expect.thrown("lease 101, another's lock", Expect.ARGUMENT, () -> x.take(0, 101));
        Expect.thrown("another's lock", Expect.STATE, () -> x.take(0, 100));
    }

    private static void takeOfAnothersLock() {
        Migrationledger x = Ledgers.running(0, false);
        for (int worker = 1; worker <= 3; worker++) {
            int w = worker;
            Expect.thrown("lease 0, worker " + w, Expect.ARGUMENT, () -> x.take(w, 0));
            Expect.thrown("lease 101, worker " + w, Expect.ARGUMENT, () -> x.take(w, 101));
            Expect.thrown("lease 1, worker " + w, Expect.STATE, () -> x.take(w, 1));
            Expect.thrown("lease 100, worker " + w, Expect.STATE, () -> x.take(w, 100));
        }
        for (int worker : BAD_WORKERS) {
            Expect.thrown("worker " + worker, Expect.ARGUMENT, () -> x.take(worker, 1));
        }
    }

    /** Where a call is possible for nobody, a worker that does not exist is refused for that all the same. */
    private static void workersThatCannotWork() {
        Migrationledger[] all = {
            new Migrationledger(), Ledgers.withChanges(1), Ledgers.crashed(), Ledgers.withDone(12, 12)};
        for (Migrationledger x : all) {
            for (int worker : BAD_WORKERS) {
                Expect.thrown("giveBack " + worker, Expect.ARGUMENT, () -> Ledgers.giveBack(x, worker));
                Expect.thrown("restart " + worker, Expect.ARGUMENT, () -> x.restart(worker));
                Expect.thrown("begin " + worker, Expect.ARGUMENT, () -> x.begin(worker));
                Expect.thrown("undo " + worker, Expect.ARGUMENT, () -> x.undo(worker));
                Expect.thrown("step " + worker, Expect.ARGUMENT, () -> x.step(worker, 1, 0));
            }
            Expect.thrown("giveBack 3", Expect.STATE, () -> Ledgers.giveBack(x, 3));
            Expect.thrown("restart 3", Expect.STATE, () -> x.restart(3));
            Expect.thrown("begin 3", Expect.STATE, () -> x.begin(3));
            Expect.thrown("undo 3", Expect.STATE, () -> x.undo(3));
            Expect.thrown("step 3", Expect.STATE, () -> x.step(3, 1, 0));
        }
    }

    private static void stepWithoutTheLock() {
        badSteps("another's lock", Ledgers.running(5, true), 1);
        Migrationledger x = Ledgers.running(5, true);
        x.giveBack(0);
        badSteps("lock given back", x, 0);
        Migrationledger y = Ledgers.running(5, true);
        y.pass(100);
        badSteps("lease just over", y, 0);
    }

    private static void stepByACrashedWorker() {
        badSteps("crashed", Ledgers.crashed(), 0);
    }

    private static void stepWithNothingAtWork() {
        Migrationledger x = Ledgers.withChanges(1);
        x.take(0, 100);
        badSteps("nothing begun", x, 0);
        badSteps("all done", Ledgers.withDone(1, 1), 0);
        Migrationledger y = Ledgers.withDone(1, 1);
        Ledgers.takeBack(y);
        badSteps("all undone", y, 0);
    }

    private static void badSteps(String when, Migrationledger x, int worker) {
        Expect.thrown("batch 0, " + when, Expect.ARGUMENT, () -> x.step(worker, 0, 0));
        Expect.thrown("batch 41, " + when, Expect.ARGUMENT, () -> x.step(worker, 41, 0));
        Expect.thrown("crashes -1, " + when, Expect.ARGUMENT, () -> x.step(worker, 1, -1));
        Expect.thrown("crashes 41, " + when, Expect.ARGUMENT, () -> x.step(worker, 1, 41));
        Expect.thrown("worker -1, " + when, Expect.ARGUMENT, () -> x.step(-1, 1, 0));
        Expect.thrown("worker 4, " + when, Expect.ARGUMENT, () -> x.step(4, 1, 0));
        Expect.thrown("all right, " + when, Expect.STATE, () -> x.step(worker, 1, 0));
        Expect.thrown("all right, 40 and 40, " + when, Expect.STATE, () -> x.step(worker, 40, 40));
    }
}
