/** Promises 21 to 25: changes are begun, undone, and taken through the table step by step. */
public final class ApplyingTest {
    private static final int MOST = 1000000000;

    public static void main(String[] args) {
        begins();
        refusesToBegin();
        undoes();
        refusesToUndo();
        refusesSteps();
        stepsUpwards();
        stepsDownwards();
        blocksUpwards();
        blocksDownwards();
        appliesEachKind();
        crashesUpwards();
        crashesDownwards();
        crashesOrBlocks();
        undoesAHalfAppliedChange();
        answersShares();
        Expect.end();
    }

    private static Migrationledger ledger(int kind, int column, int operand) {
        Migrationledger x = new Migrationledger();
        x.addChange(kind, column, operand);
        x.take(0, 100);
        return x;
    }

    private static void begins() {
        Migrationledger x = ledger(0, 0, 1);
        x.addChange(0, 0, 2);
        Expect.answer("begin 1", 1, () -> x.begin(0));
        Expect.answer("cursor", 0, () -> x.cursor());
        Expect.answer("state", 1, () -> x.state(1));
        x.step(0, 40, 0);
        Expect.thrown("cursor behind the end", Expect.STATE, () -> x.cursor());
        Expect.answer("begin 2", 2, () -> x.begin(0));
        Expect.answer("cursor anew", 0, () -> x.cursor());
    }

    private static void refusesToBegin() {
        Migrationledger x = new Migrationledger();
        x.take(0, 100);
        Expect.thrown("no changes", Expect.STATE, () -> x.begin(0));
        x.addChange(0, 0, 1);
        x.addChange(0, 0, 1);
        for (int worker : new int[] {-1, 4, Integer.MIN_VALUE, Integer.MAX_VALUE}) {
            Expect.thrown("begin " + worker, Expect.ARGUMENT, () -> x.begin(worker));
            Expect.thrown("undo " + worker, Expect.ARGUMENT, () -> x.undo(worker));
        }
        Expect.thrown("without the lock", Expect.STATE, () -> x.begin(1));
        x.begin(0);
        Expect.thrown("while one runs", Expect.STATE, () -> x.begin(0));
        x.step(0, 40, 0);
        x.undo(0);
        Expect.thrown("while one is being undone", Expect.STATE, () -> x.begin(0));
        x.step(0, 40, 0);
        x.begin(0);
        x.step(0, 40, 0);
        x.edit(1, 0, 0, 2);
        Expect.thrown("while one has drifted", Expect.STATE, () -> x.begin(0));
        x.edit(1, 0, 0, 1);
        Expect.answer("when it has not", 2, () -> x.begin(0));
        x.step(0, 40, 0);
        Expect.thrown("none is pending", Expect.STATE, () -> x.begin(0));
    }

    private static void undoes() {
        Migrationledger x = ledger(0, 0, 1);
        x.addChange(0, 0, 2);
        x.begin(0);
        x.step(0, 3, 0);
        Expect.answer("undo the running one", 1, () -> x.undo(0));
        Expect.answer("cursor", 40, () -> x.cursor());
        Expect.answer("state", 3, () -> x.state(1));
        x.step(0, 40, 0);
        Expect.thrown("cursor behind the end", Expect.STATE, () -> x.cursor());
        x.begin(0);
        x.step(0, 40, 0);
        x.begin(0);
        x.step(0, 40, 0);
        x.edit(1, 0, 0, 7);
        Expect.answer("undo the last one though an earlier one has drifted", 2, () -> x.undo(0));
        Expect.answer("level", 1, () -> x.level());
    }

    private static void refusesToUndo() {
        Migrationledger x = ledger(0, 0, 1);
        x.addChange(0, 0, 2);
        Expect.thrown("none runs and none is done", Expect.STATE, () -> x.undo(0));
        x.begin(0);
        Expect.thrown("without the lock", Expect.STATE, () -> x.undo(1));
        x.undo(0);
        Expect.thrown("while one is being undone", Expect.STATE, () -> x.undo(0));
        x.step(0, 40, 0);
        x.begin(0);
        x.step(0, 40, 0);
        x.edit(1, 0, 0, 5);
        Expect.thrown("the last one has drifted", Expect.STATE, () -> x.undo(0));
        Expect.answer("state", 2, () -> x.state(1));
        Expect.answer("level", 1, () -> x.level());
        x.edit(1, 0, 0, 1);
        x.begin(0);
        x.edit(1, 0, 0, 5);
        Expect.answer("the running one is undone though the last one has drifted", 2, () -> x.undo(0));
    }

    private static void refusesSteps() {
        Migrationledger x = ledger(0, 0, 1);
        Expect.thrown("nothing to do", Expect.STATE, () -> x.step(0, 1, 0));
        Expect.thrown("nothing to do, wrong batch", Expect.ARGUMENT, () -> x.step(0, 0, 0));
        x.begin(0);
        int[] badWorkers = {-1, 4, Integer.MIN_VALUE, Integer.MAX_VALUE};
        for (int worker : badWorkers) {
            Expect.thrown("worker " + worker, Expect.ARGUMENT, () -> x.step(worker, 1, 0));
        }
        int[] badBatches = {0, -1, 41, Integer.MIN_VALUE, Integer.MAX_VALUE};
        for (int batch : badBatches) {
            Expect.thrown("batch " + batch, Expect.ARGUMENT, () -> x.step(0, batch, 0));
        }
        int[] badCrashes = {-1, 41, Integer.MIN_VALUE, Integer.MAX_VALUE};
        for (int crashes : badCrashes) {
            Expect.thrown("crashes " + crashes, Expect.ARGUMENT, () -> x.step(0, 1, crashes));
            Expect.thrown("without the lock " + crashes, Expect.ARGUMENT, () -> x.step(1, 1, crashes));
        }
        Expect.thrown("without the lock", Expect.STATE, () -> x.step(1, 1, 0));
        Expect.answer("cursor", 0, () -> x.cursor());
        Expect.answer("crashes 40", 0, () -> x.step(0, 1, 40));
        x.giveBack(0);
        Expect.thrown("with the lock given back", Expect.STATE, () -> x.step(0, 1, 0));
    }

    private static void fill(Migrationledger x, int value) {
        for (int id = 0; id < 40; id += 2) {
            x.insert(id, value, value, value);
        }
    }

    private static void stepsUpwards() {
        Migrationledger x = ledger(0, 1, 5);
        fill(x, 1);
        x.begin(0);
        Expect.answer("ids 0 to 2", 2, () -> x.step(0, 3, 0));
        Expect.answer("cursor 3", 3, () -> x.cursor());
        Expect.answer("value 2", 6, () -> x.value(2, 1));
        Expect.answer("value 4", 1, () -> x.value(4, 1));
        Expect.answer("other column", 1, () -> x.value(2, 0));
        Expect.answer("version 2", 1, () -> x.version(2));
        Expect.answer("version 4", 0, () -> x.version(4));
        Expect.answer("id 3", 0, () -> x.step(0, 1, 0));
        Expect.answer("ids 4 to 38", 18, () -> x.step(0, 35, 0));
        Expect.answer("still running", 1, () -> x.state(1));
        Expect.answer("id 39 and the end", 0, () -> x.step(0, 40, 0));
        Expect.answer("done", 2, () -> x.state(1));
        Expect.answer("rowsAt 1", 20, () -> x.rowsAt(1));
    }

    private static void stepsDownwards() {
        Migrationledger x = ledger(0, 1, 5);
        fill(x, 1);
        x.begin(0);
        x.step(0, 40, 0);
        x.undo(0);
        Expect.answer("ids 39 to 36", 2, () -> x.step(0, 4, 0));
        Expect.answer("cursor 36", 36, () -> x.cursor());
        Expect.answer("value 36", 1, () -> x.value(36, 1));
        Expect.answer("value 34", 6, () -> x.value(34, 1));
        Expect.answer("version 36", 0, () -> x.version(36));
        Expect.answer("version 34", 1, () -> x.version(34));
        Expect.answer("ids 35 to 1", 17, () -> x.step(0, 35, 0));
        Expect.answer("cursor 1", 1, () -> x.cursor());
        Expect.answer("still being undone", 3, () -> x.state(1));
        Expect.answer("id 0 and the end", 1, () -> x.step(0, 40, 0));
        Expect.answer("pending", 0, () -> x.state(1));
        Expect.answer("rowsAt 0", 20, () -> x.rowsAt(0));
    }

    private static void blocksUpwards() {
        Migrationledger x = ledger(0, 0, 10);
        x.insert(3, 1, 0, 0);
        x.insert(5, MOST - 9, 0, 0);
        x.insert(7, MOST - 10, 0, 0);
        x.begin(0);
        Expect.answer("blocked behind one", -99, () -> x.step(0, 40, 0));
        Expect.answer("cursor at the row", 5, () -> x.cursor());
        Expect.answer("value 3", 11, () -> x.value(3, 0));
        Expect.answer("value 5", MOST - 9, () -> x.value(5, 0));
        Expect.answer("version 5", 0, () -> x.version(5));
        Expect.answer("blocked again", -100, () -> x.step(0, 1, 0));
        Expect.answer("cursor at the row again", 5, () -> x.cursor());
        Expect.answer("running", 1, () -> x.state(1));
        x.write(5, 0, 0);
        Expect.answer("goes on", 2, () -> x.step(0, 40, 0));
        Expect.answer("value 7", MOST, () -> x.value(7, 0));
        Expect.answer("done", 2, () -> x.state(1));
    }

    private static void blocksDownwards() {
        Migrationledger x = ledger(1, 2, -4);
        x.insert(0, 0, 0, 3);
        x.insert(39, 0, 0, 5);
        x.begin(0);
        x.step(0, 40, 0);
        x.write(0, 2, 13);
        x.undo(0);
        Expect.answer("blocked behind one", -99, () -> x.step(0, 40, 0));
        Expect.answer("cursor above the row", 1, () -> x.cursor());
        Expect.answer("value 39", 5, () -> x.value(39, 2));
        Expect.answer("value 0", 13, () -> x.value(0, 2));
        Expect.answer("version 0", 1, () -> x.version(0));
        Expect.answer("blocked again", -100, () -> x.step(0, 1, 0));
        Expect.answer("being undone", 3, () -> x.state(1));
        x.delete(0);
        Expect.answer("the row is gone", 0, () -> x.step(0, 1, 0));
        Expect.answer("pending", 0, () -> x.state(1));
    }

    private static void appliesEachKind() {
        runsBothWays(0, -1000, -MOST + 1000, -MOST, true);
        runsBothWays(0, -1000, -MOST + 999, 0, false);
        runsBothWays(0, 1000, MOST - 1000, MOST, true);
        runsBothWays(0, 1000, MOST - 999, 0, false);
        runsBothWays(1, -1, -MOST, MOST, true);
        runsBothWays(1, 2, MOST / 2, MOST, true);
        runsBothWays(1, 2, MOST / 2 + 1, 0, false);
        runsBothWays(1, -2, MOST / 2, -MOST, true);
        runsBothWays(1, -2, MOST / 2 + 1, 0, false);
        // 5 times 859000000 is 9032704 in an int
        runsBothWays(1, 5, 859000000, 0, false);
        runsBothWays(1, 9, 0, 0, true);
        runsBothWays(1, 1, -7, -7, true);
        runsBothWays(0, 0, MOST, MOST, true);
        undoIsBlocked(0, 1000, MOST - 1000, -MOST + 999);
        undoIsBlocked(0, -1000, -MOST + 1000, MOST - 999);
        undoIsBlocked(1, 3, 1, 4);
        undoIsBlocked(1, -3, 1, -4);
        exchanges();
    }

    private static void runsBothWays(int kind, int operand, int before, int after, boolean possible) {
        String what = kind + " by " + operand + " on " + before;
        Migrationledger x = ledger(kind, 1, operand);
        x.insert(12, 5, before, 6);
        x.begin(0);
        Expect.answer(what, possible ? 1 : -100, () -> x.step(0, 40, 0));
        Expect.answer(what + ", value", possible ? after : before, () -> x.value(12, 1));
        if (possible) {
            x.undo(0);
            Expect.answer(what + ", undone", 1, () -> x.step(0, 40, 0));
            Expect.answer(what + ", value then", before, () -> x.value(12, 1));
        }
        Expect.answer(what + ", column 0", 5, () -> x.value(12, 0));
        Expect.answer(what + ", column 2", 6, () -> x.value(12, 2));
    }

    private static void undoIsBlocked(int kind, int operand, int before, int written) {
        String what = "undo " + kind + " by " + operand + " on " + written;
        Migrationledger x = ledger(kind, 1, operand);
        x.insert(12, 5, before, 6);
        x.begin(0);
        x.step(0, 40, 0);
        x.write(12, 1, written);
        x.undo(0);
        Expect.answer(what, -100, () -> x.step(0, 40, 0));
        Expect.answer(what + ", cursor", 13, () -> x.cursor());
        Expect.answer(what + ", value", written, () -> x.value(12, 1));
        Expect.answer(what + ", version", 1, () -> x.version(12));
    }

    private static void exchanges() {
        for (int column = 0; column < 3; column++) {
            for (int other = 0; other < 3; other++) {
                if (other != column) {
                    exchange(column, other);
                }
            }
        }
    }

    private static void exchange(int column, int other) {
        int[] row = {MOST, -MOST, 7};
        Migrationledger x = ledger(2, column, other);
        x.insert(0, row[0], row[1], row[2]);
        x.begin(0);
        x.step(0, 40, 0);
        String what = "exchange " + column + " and " + other;
        int third = 3 - column - other;
        Expect.answer(what + ", column", row[other], () -> x.value(0, column));
        Expect.answer(what + ", other", row[column], () -> x.value(0, other));
        Expect.answer(what + ", third", row[third], () -> x.value(0, third));
        x.undo(0);
        x.step(0, 40, 0);
        Expect.answer(what + ", column again", row[column], () -> x.value(0, column));
        Expect.answer(what + ", other again", row[other], () -> x.value(0, other));
    }

    private static void crashesUpwards() {
        Migrationledger x = ledger(0, 0, 1);
        fill(x, 0);
        x.begin(0);
        x.step(0, 5, 0);
        Expect.answer("crash behind 2", 2, () -> x.step(0, 10, 2));
        Expect.answer("cursor stays", 5, () -> x.cursor());
        Expect.answer("version 8", 1, () -> x.version(8));
        Expect.answer("version 10", 0, () -> x.version(10));
        Expect.thrown("step by the crashed one", Expect.STATE, () -> x.step(0, 1, 0));
        x.restart(0);
        Expect.answer("ids 5 to 10", 1, () -> x.step(0, 6, 0));
        Expect.answer("cursor 11", 11, () -> x.cursor());
        Expect.answer("value 6, changed once", 1, () -> x.value(6, 0));
        Expect.answer("fewer rows than the crash needs", 1, () -> x.step(0, 2, 2));
        Expect.answer("cursor 13", 13, () -> x.cursor());
        Expect.answer("crash at the last row", 13, () -> x.step(0, 40, 13));
        Expect.answer("not done", 1, () -> x.state(1));
        Expect.answer("cursor stays at 13", 13, () -> x.cursor());
        x.restart(0);
        Expect.answer("nothing left", 0, () -> x.step(0, 40, 1));
        Expect.answer("done", 2, () -> x.state(1));
        Expect.thrown("did not crash", Expect.STATE, () -> x.restart(0));
    }

    private static void crashesDownwards() {
        Migrationledger x = ledger(0, 0, 1);
        fill(x, 0);
        x.begin(0);
        x.step(0, 40, 0);
        x.undo(0);
        Expect.answer("crash behind 3", 3, () -> x.step(0, 40, 3));
        Expect.answer("cursor stays", 40, () -> x.cursor());
        Expect.answer("version 34", 0, () -> x.version(34));
        Expect.answer("version 32", 1, () -> x.version(32));
        x.restart(0);
        Expect.answer("goes on", 1, () -> x.step(0, 8, 0));
        Expect.answer("cursor 32", 32, () -> x.cursor());
        Expect.answer("crash at the last row", 16, () -> x.step(0, 40, 16));
        Expect.answer("not undone yet", 3, () -> x.state(1));
        Expect.answer("cursor stays at 32", 32, () -> x.cursor());
        x.restart(0);
        Expect.answer("nothing left", 0, () -> x.step(0, 40, 0));
        Expect.answer("pending", 0, () -> x.state(1));
        Expect.answer("value 34, undone once", 0, () -> x.value(34, 0));
    }

    private static void crashesOrBlocks() {
        Migrationledger x = ledger(0, 0, 1);
        x.insert(0, 0, 0, 0);
        x.insert(1, MOST, 0, 0);
        x.insert(2, 0, 0, 0);
        x.begin(0);
        Expect.answer("the crash comes first", 1, () -> x.step(0, 40, 1));
        Expect.answer("cursor", 0, () -> x.cursor());
        x.restart(0);
        Expect.answer("the block comes first", -100, () -> x.step(0, 40, 1));
        Expect.answer("cursor at the block", 1, () -> x.cursor());
        Expect.thrown("no crash then", Expect.STATE, () -> x.restart(0));
    }

    private static void undoesAHalfAppliedChange() {
        Migrationledger x = ledger(0, 0, 1);
        fill(x, 0);
        x.begin(0);
        x.step(0, 5, 0);
        x.step(0, 35, 4);
        x.restart(0);
        Expect.answer("rowsAt 1", 7, () -> x.rowsAt(1));
        x.undo(0);
        Expect.answer("rows without it are passed over", 1, () -> x.step(0, 28, 0));
        Expect.answer("the rest", 6, () -> x.step(0, 40, 0));
        Expect.answer("level", 0, () -> x.level());
        Expect.answer("rowsAt 0", 20, () -> x.rowsAt(0));
        Expect.answer("begin anew", 1, () -> x.begin(0));
        Expect.answer("all rows", 20, () -> x.step(0, 40, 0));
    }

    private static void answersShares() {
        Migrationledger x = ledger(0, 0, 1);
        x.addChange(0, 0, 2);
        Expect.thrown("none runs", Expect.STATE, () -> x.share());
        Expect.thrown("no cursor", Expect.STATE, () -> x.cursor());
        x.begin(0);
        Expect.thrown("no row", Expect.STATE, () -> x.share());
        x.insert(0, 0, 0, 0);
        x.insert(10, 0, 0, 0);
        x.insert(20, 0, 0, 0);
        Expect.answer("none of 3", 0.0f, () -> x.share());
        x.step(0, 10, 0);
        Expect.answer("1 of 3", 1.0f / 3.0f, () -> x.share());
        x.step(0, 10, 0);
        Expect.answer("2 of 3", 2.0f / 3.0f, () -> x.share());
        x.step(0, 10, 0);
        Expect.answer("3 of 3", 1.0f, () -> x.share());
        x.step(0, 40, 0);
        Expect.thrown("done", Expect.STATE, () -> x.share());
        x.begin(0);
        Expect.answer("the second one, none of 3", 0.0f, () -> x.share());
        x.step(0, 15, 0);
        x.undo(0);
        Expect.answer("being undone, 2 of 3", 2.0f / 3.0f, () -> x.share());
        x.step(0, 30, 0);
        Expect.answer("being undone, 1 of 3", 1.0f / 3.0f, () -> x.share());
        x.delete(20);
        Expect.answer("being undone, 1 of 2", 0.5f, () -> x.share());
        x.delete(10);
        Expect.answer("being undone, 1 of 1", 1.0f, () -> x.share());
        x.delete(0);
        Expect.thrown("being undone, no row", Expect.STATE, () -> x.share());
    }
}
