/**
 * The edges of "Terms" that concern applying and undoing: the cursor from 0 to 40, batches that end at, behind
 * and ahead of the table's end, absent rows, rows that were changed already, and where a step ends when it is
 * blocked, when it crashes, and when both could be.
 */
public final class EdgeStepTest {
    private static final int MOST = Ledgers.MOST;
    private static final int ROWS = Ledgers.ROWS;

    public static void main(String[] args) {
        everyCursorBatchAndCrashUpwards();
        everyCursorBatchAndCrashDownwards();
        everyBlockedRowUpwards();
        everyBlockedRowDownwards();
        crashAndBlockAtOnce();
        rowsChangedAheadOfACrash();
        emptyTable();
        oneRowAlone();
        blockedRowsMadePossible();
        beginAtTheEndsOfTheList();
        undoAtEachCursor();
        undoOfABlockedChange();
        undoTwice();
        cursorWithoutAChange();
        sharesOfEachNumberOfRows();
        sharesWithoutRows();
        Expect.end();
    }

    private static int[] crashesFor(int ids) {
        return new int[] {0, 1, 2, Math.max(1, ids - 1), ids, Math.min(ROWS, ids + 1), ROWS};
    }

    private static void everyCursorBatchAndCrashUpwards() {
        for (int cursor = 0; cursor < ROWS; cursor++) {
            for (int batch = 1; batch <= ROWS; batch++) {
                int ids = Math.min(batch, ROWS - cursor);
                for (int crashes : crashesFor(ids)) {
                    stepUpwards(cursor, batch, crashes, ids);
                }
            }
        }
    }

    private static void stepUpwards(int cursor, int batch, int crashes, int ids) {
        String what = "from " + cursor + ", batch " + batch + ", crashes " + crashes;
        Migrationledger x = Ledgers.running(cursor, true);
        boolean crash = crashes > 0 && crashes <= ids;
        int changed = crash ? crashes : ids;
        Expect.answer("step up " + what, changed, () -> x.step(0, batch, crashes));
        int end = crash ? cursor : cursor + ids;
        boolean done = end == ROWS;
        Expect.answer("cursor, " + what, done ? (Object) Expect.STATE : end, () -> x.cursor());
        Expect.answer("state, " + what, done ? 2 : 1, () -> x.state(1));
        Expect.answer("level, " + what, done ? 1 : 0, () -> x.level());
        rowsHaveIt(x, what, cursor + changed);
        Expect.answer("restart, " + what, crash ? (Object) true : Expect.STATE, () -> x.restart(0));
    }

    /** The change, which adds 1 to the id in column 0, is had by the ids below the bound, and by no other. */
    private static void rowsHaveIt(Migrationledger x, String what, int bound) {
        for (int id = 0; id < ROWS; id++) {
            int i = id;
            int version = i < bound ? 1 : 0;
            Expect.answer("version " + i + ", " + what, version, () -> x.version(i));
            Expect.answer("value " + i + ", " + what, i + version, () -> x.value(i, 0));
        }
    }

    private static void everyCursorBatchAndCrashDownwards() {
        for (int cursor = 1; cursor <= ROWS; cursor++) {
            for (int batch = 1; batch <= ROWS; batch++) {
                int ids = Math.min(batch, cursor);
                for (int crashes : crashesFor(ids)) {
                    stepDownwards(cursor, batch, crashes, ids);
                }
            }
        }
    }

    private static void stepDownwards(int cursor, int batch, int crashes, int ids) {
        String what = "down from " + cursor + ", batch " + batch + ", crashes " + crashes;
        Migrationledger x = Ledgers.beingUndone(cursor, true);
        boolean crash = crashes > 0 && crashes <= ids;
        int changed = crash ? crashes : ids;
        Expect.answer("step " + what, changed, () -> x.step(0, batch, crashes));
        int end = crash ? cursor : cursor - ids;
        boolean undone = end == 0;
        Expect.answer("cursor, " + what, undone ? (Object) Expect.STATE : end, () -> x.cursor());
        Expect.answer("state, " + what, undone ? 0 : 3, () -> x.state(1));
        Expect.answer("level, " + what, 0, () -> x.level());
        rowsHaveIt(x, what, cursor - changed);
        Expect.answer("restart, " + what, crash ? (Object) true : Expect.STATE, () -> x.restart(0));
    }

    /** "it is blocked, and the cursor stops so that this row is the next one" */
    private static void everyBlockedRowUpwards() {
        for (int cursor = 0; cursor < ROWS; cursor++) {
            for (int row = cursor; row < ROWS; row++) {
                blockedUpwards(cursor, row, row - cursor + 1);
                blockedUpwards(cursor, row, ROWS);
                notReachedUpwards(cursor, row);
            }
        }
    }

    private static void blockedUpwards(int cursor, int row, int batch) {
        String what = "from " + cursor + ", blocked at " + row + ", batch " + batch;
        Migrationledger x = Ledgers.running(cursor, true);
        x.write(row, 0, MOST);
        Expect.answer("step up " + what, row - cursor - 100, () -> x.step(0, batch, 0));
        stoppedAt(x, what, row, row, 1);
        Expect.answer("value, " + what, MOST, () -> x.value(row, 0));
        Expect.answer("rowsAt 1, " + what, row, () -> x.rowsAt(1));
        Expect.answer("again, " + what, -100, () -> x.step(0, 1, 1));
        stoppedAt(x, what, row, row, 1);
        x.write(row, 0, MOST - 1);
        Expect.answer("when possible, " + what, ROWS - row, () -> x.step(0, 40, 0));
        Expect.answer("value then, " + what, MOST, () -> x.value(row, 0));
    }

    /** The step did not change the row, nobody crashed, and the change goes on at the cursor. */
    private static void stoppedAt(Migrationledger x, String what, int cursor, int row, int state) {
        Expect.answer("cursor, " + what, cursor, () -> x.cursor());
        Expect.answer("state, " + what, state, () -> x.state(1));
        Expect.answer("version, " + what, state == 1 ? 0 : 1, () -> x.version(row));
        Expect.thrown("restart, " + what, Expect.STATE, () -> x.restart(0));
    }

    /** A batch that ends just ahead of an impossible row is not blocked. */
    private static void notReachedUpwards(int cursor, int row) {
        if (row == cursor) {
            return;
        }
        String what = "from " + cursor + " just to " + row;
        Migrationledger x = Ledgers.running(cursor, true);
        x.write(row, 0, MOST);
        Expect.answer("step up " + what, row - cursor, () -> x.step(0, row - cursor, 0));
        stoppedAt(x, what, row, row, 1);
    }

    private static void everyBlockedRowDownwards() {
        for (int cursor = 1; cursor <= ROWS; cursor++) {
            for (int row = cursor - 1; row >= 0; row--) {
                blockedDownwards(cursor, row, cursor - row);
                blockedDownwards(cursor, row, ROWS);
                notReachedDownwards(cursor, row);
            }
        }
    }

    private static void blockedDownwards(int cursor, int row, int batch) {
        String what = "down from " + cursor + ", blocked at " + row + ", batch " + batch;
        Migrationledger x = Ledgers.beingUndone(cursor, true);
        x.write(row, 0, -MOST);
        Expect.answer("step " + what, cursor - 1 - row - 100, () -> x.step(0, batch, 0));
        stoppedAt(x, what, row + 1, row, 3);
        Expect.answer("value, " + what, -MOST, () -> x.value(row, 0));
        Expect.answer("rowsAt 1, " + what, row + 1, () -> x.rowsAt(1));
        Expect.answer("again, " + what, -100, () -> x.step(0, 1, 1));
        stoppedAt(x, what, row + 1, row, 3);
        x.write(row, 0, 1 - MOST);
        Expect.answer("when possible, " + what, row + 1, () -> x.step(0, 40, 0));
        Expect.answer("value then, " + what, -MOST, () -> x.value(row, 0));
    }

    private static void notReachedDownwards(int cursor, int row) {
        if (row == cursor - 1) {
            return;
        }
        String what = "down from " + cursor + " just to " + row;
        Migrationledger x = Ledgers.beingUndone(cursor, true);
        x.write(row, 0, -MOST);
        Expect.answer("step " + what, cursor - 1 - row, () -> x.step(0, cursor - 1 - row, 0));
        stoppedAt(x, what, row + 1, row, 3);
    }

    /** The worker crashes "as soon as the step has changed so many rows": the row behind is not tried. */
    private static void crashAndBlockAtOnce() {
        for (int row = 0; row < ROWS; row++) {
            for (int crashes = 0; crashes <= ROWS; crashes++) {
                crashOrBlockUpwards(row, crashes);
                crashOrBlockDownwards(row, crashes);
            }
        }
    }

    private static void crashOrBlockUpwards(int row, int crashes) {
        String what = "up, blocked at " + row + ", crashes " + crashes;
        Migrationledger x = Ledgers.running(0, true);
        x.write(row, 0, MOST);
        boolean crash = crashes > 0 && crashes <= row;
        Expect.answer("step " + what, crash ? crashes : row - 100, () -> x.step(0, 40, crashes));
        Expect.answer("cursor, " + what, crash ? 0 : row, () -> x.cursor());
        Expect.answer("rowsAt 1, " + what, crash ? crashes : row, () -> x.rowsAt(1));
        Expect.answer("restart, " + what, crash ? (Object) true : Expect.STATE, () -> x.restart(0));
    }

    private static void crashOrBlockDownwards(int row, int crashes) {
        String what = "down, blocked at " + row + ", crashes " + crashes;
        Migrationledger x = Ledgers.beingUndone(40, true);
        x.write(row, 0, -MOST);
        int above = ROWS - 1 - row;
        boolean crash = crashes > 0 && crashes <= above;
        Expect.answer("step " + what, crash ? crashes : above - 100, () -> x.step(0, 40, crashes));
        Expect.answer("cursor, " + what, crash ? 40 : row + 1, () -> x.cursor());
        Expect.answer("rowsAt 0, " + what, crash ? crashes : above, () -> x.rowsAt(0));
        Expect.answer("restart, " + what, crash ? (Object) true : Expect.STATE, () -> x.restart(0));
    }

    /** Rows "that have the change already, or do not have it any more" are passed over: they count neither
     * for the answer nor for a crash, and block nothing. */
    private static void rowsChangedAheadOfACrash() {
        for (int crashes = 1; crashes <= ROWS; crashes++) {
            for (int batch = 1; batch <= ROWS; batch += 3) {
                goOnUpwards(crashes, batch);
                goOnDownwards(crashes, batch);
            }
        }
    }

    private static void goOnUpwards(int crashes, int batch) {
        String what = "up behind a crash at " + crashes + ", batch " + batch;
        Migrationledger x = Ledgers.running(0, true);
        x.step(0, 40, crashes);
        x.restart(0);
        x.write(0, 0, MOST);
        int changed = Math.max(0, batch - crashes);
        Expect.answer("step " + what, changed, () -> x.step(0, batch, changed + 1 > ROWS ? 0 : changed + 1));
        Expect.answer("cursor, " + what, batch == ROWS ? (Object) Expect.STATE : batch, () -> x.cursor());
        Expect.answer("rowsAt 1, " + what, Math.max(crashes, batch), () -> x.rowsAt(1));
        Expect.answer("value 0, " + what, MOST, () -> x.value(0, 0));
    }

    private static void goOnDownwards(int crashes, int batch) {
        String what = "down behind a crash at " + crashes + ", batch " + batch;
        Migrationledger x = Ledgers.beingUndone(40, true);
        x.step(0, 40, crashes);
        x.restart(0);
        x.write(39, 0, -MOST);
        int changed = Math.max(0, batch - crashes);
        Expect.answer("step " + what, changed, () -> x.step(0, batch, changed + 1 > ROWS ? 0 : changed + 1));
        Expect.answer("cursor, " + what, batch == ROWS ? (Object) Expect.STATE : ROWS - batch, () -> x.cursor());
        Expect.answer("rowsAt 0, " + what, Math.max(crashes, batch), () -> x.rowsAt(0));
        Expect.answer("value 39, " + what, -MOST, () -> x.value(39, 0));
    }

    /** "Absent rows are passed over", even all of them; a crash behind a row never comes then. */
    private static void emptyTable() {
        for (int batch = 1; batch <= ROWS; batch++) {
            int b = batch;
            boolean all = b == ROWS;
            Migrationledger x = Ledgers.running(0, false);
            Expect.answer("step up " + b, 0, () -> x.step(0, b, 1));
            Expect.answer("cursor", all ? (Object) Expect.STATE : b, () -> x.cursor());
            Expect.answer("state", all ? 2 : 1, () -> x.state(1));
            Migrationledger y = Ledgers.beingUndone(40, false);
            Expect.answer("step down " + b, 0, () -> y.step(0, b, 1));
            Expect.answer("cursor", all ? (Object) Expect.STATE : ROWS - b, () -> y.cursor());
            Expect.answer("state", all ? 0 : 3, () -> y.state(1));
        }
    }

    /** One row, the first or the last one too: the batch that ends just ahead of it, and the one with it. */
    private static void oneRowAlone() {
        for (int row = 0; row < ROWS; row++) {
            int id = row;
            Migrationledger x = Ledgers.running(0, false);
            x.insert(id, 5, 0, 0);
            if (id > 0) {
                Expect.answer("just ahead of " + id, 0, () -> x.step(0, id, 0));
                Expect.answer("version " + id, 0, () -> x.version(id));
            }
            Expect.answer("at " + id, 1, () -> x.step(0, 1, 0));
            Expect.answer("version " + id, 1, () -> x.version(id));
            Expect.answer("state", id == 39 ? 2 : 1, () -> x.state(1));
            if (id < 39) {
                x.step(0, 40, 0);
            }
            x.undo(0);
            if (id < 39) {
                Expect.answer("just above " + id, 0, () -> x.step(0, 39 - id, 0));
                Expect.answer("version " + id, 1, () -> x.version(id));
            }
            Expect.answer("down at " + id, 1, () -> x.step(0, 1, 0));
            Expect.answer("version " + id, 0, () -> x.version(id));
            Expect.answer("value " + id, 5, () -> x.value(id, 0));
        }
    }

    /** A blocked step goes on when the row was written, or is gone. */
    private static void blockedRowsMadePossible() {
        for (int row = 0; row < ROWS; row += 39) {
            int id = row;
            Migrationledger x = Ledgers.running(0, true);
            x.write(id, 0, MOST);
            Expect.answer("blocked", id - 100, () -> x.step(0, 40, 0));
            x.delete(id);
            Expect.answer("goes on without the row", 39 - id, () -> x.step(0, 40, 0));
            Expect.answer("state", 2, () -> x.state(1));
            Migrationledger y = Ledgers.running(0, true);
            y.write(id, 0, MOST);
            y.step(0, 40, 0);
            y.delete(id);
            Expect.answer("insert at the cursor", 0, () -> y.insert(id, MOST, 0, 0));
            Expect.answer("blocked by the new row", -100, () -> y.step(0, 40, 0));
        }
    }

    /** begin: "Begins the first pending change", from the first to the 12th, and no more. */
    private static void beginAtTheEndsOfTheList() {
        for (int count = 0; count <= 12; count++) {
            for (int done = 0; done <= count; done++) {
                int next = done + 1;
                boolean none = done == count;
                Migrationledger x = Ledgers.withDone(done, count);
                x.take(0, 100);
                Expect.answer("begin, " + done + " of " + count + " done", none ? (Object) Expect.STATE : next,
                        () -> x.begin(0));
                Expect.answer("cursor then", none ? (Object) Expect.STATE : 0, () -> x.cursor());
                if (none && count < 12) {
                    x.addChange(0, 0, 1);
                    Expect.answer("begin the one just added", next, () -> x.begin(0));
                }
            }
        }
    }

    /** undo: "Lets the running change be undone ... The cursor is 40 then", whatever it was. */
    private static void undoAtEachCursor() {
        for (int at = 0; at < ROWS; at++) {
            int cursor = at;
            Migrationledger x = Ledgers.running(cursor, true);
            Expect.answer("undo at " + cursor, 1, () -> x.undo(0));
            Expect.answer("cursor", 40, () -> x.cursor());
            Expect.answer("state", 3, () -> x.state(1));
            if (cursor > 0) {
                Expect.answer("rows that do not have it", 0, () -> x.step(0, ROWS - cursor, 1));
                Expect.answer("cursor", cursor, () -> x.cursor());
            }
            Expect.answer("rows that have it", cursor, () -> x.step(0, 40, 0));
            Expect.answer("state", 0, () -> x.state(1));
            rowsHaveIt(x, "undone at " + cursor, 0);
            Expect.answer("begin anew", 1, () -> x.begin(0));
            Expect.answer("cursor anew", 0, () -> x.cursor());
        }
    }

    /** A row that blocked the change does not have it, so it does not block its undoing. */
    private static void undoOfABlockedChange() {
        Migrationledger x = Ledgers.running(0, true);
        x.write(20, 0, MOST);
        Expect.answer("blocked", 20 - 100, () -> x.step(0, 40, 0));
        Expect.answer("undo", 1, () -> x.undo(0));
        Expect.answer("step", 20, () -> x.step(0, 40, 0));
        Expect.answer("state", 0, () -> x.state(1));
        Expect.answer("value 20", MOST, () -> x.value(20, 0));
        Expect.answer("rowsAt 0", 40, () -> x.rowsAt(0));
    }

    /** undo: "a change is being undone", or "no change is running and none is done" */
    private static void undoTwice() {
        Migrationledger x = Ledgers.withDone(2, 2);
        Expect.answer("undo 2", 2, () -> x.undo(0));
        Expect.thrown("undo while 2 is being undone", Expect.STATE, () -> x.undo(0));
        x.step(0, 39, 0);
        Expect.thrown("undo while its last id is left", Expect.STATE, () -> x.undo(0));
        Expect.answer("cursor", 1, () -> x.cursor());
        x.step(0, 1, 0);
        Expect.answer("undo 1", 1, () -> x.undo(0));
        x.step(0, 40, 0);
        Expect.thrown("undo none", Expect.STATE, () -> x.undo(0));
        Expect.answer("level", 0, () -> x.level());
        Expect.answer("begin 1", 1, () -> x.begin(0));
        Expect.thrown("begin while it is running", Expect.STATE, () -> x.begin(0));
        x.step(0, 39, 0);
        Expect.thrown("begin while its last id is left", Expect.STATE, () -> x.begin(0));
        x.step(0, 1, 0);
        Expect.answer("begin 2", 2, () -> x.begin(0));
    }

    /** cursor: "Throws IllegalStateException if there is none", neither running nor being undone. */
    private static void cursorWithoutAChange() {
        Expect.thrown("cursor, new", Expect.STATE, () -> new Migrationledger().cursor());
        for (int done = 0; done <= 12; done++) {
            Migrationledger x = Ledgers.withDone(done, 12);
            Expect.thrown("cursor, " + done + " done", Expect.STATE, () -> x.cursor());
            if (done > 0) {
                x.undo(0);
                Expect.answer("cursor, being undone", 40, () -> x.cursor());
                x.step(0, 40, 0);
                Expect.thrown("cursor, undone", Expect.STATE, () -> x.cursor());
            }
        }
    }

    /** share: "how many have it, as a float, divided by how many rows are present, as a float" */
    private static void sharesOfEachNumberOfRows() {
        for (int rows = 1; rows <= ROWS; rows++) {
            for (int having = 0; having < ROWS; having++) {
                share("running", Ledgers.running(having, false), rows, having);
                share("being undone", Ledgers.beingUndone(having + 1, false), rows, having + 1);
            }
        }
    }

    /** Rows put in below the cursor have the change, the other ones don't. */
    private static void share(String when, Migrationledger x, int rows, int cursor) {
        float due = (float) Math.min(rows, cursor) / (float) rows;
        for (int id = 0; id < rows; id++) {
            x.insert(id, 0, 0, 0);
        }
        Expect.answer("share of " + rows + " rows, " + when, due, () -> x.share());
    }

    /** share: "there is no such change, or no row is present" */
    private static void sharesWithoutRows() {
        Migrationledger x = Ledgers.withDone(1, 2);
        Expect.thrown("no change, no row", Expect.STATE, () -> x.share());
        x.insert(39, 0, 0, 0);
        Expect.thrown("no change, a row", Expect.STATE, () -> x.share());
        x.begin(0);
        Expect.answer("a change, a row", 0.0f, () -> x.share());
        x.delete(39);
        Expect.thrown("a change, no row", Expect.STATE, () -> x.share());
        x.insert(0, 0, 0, 0);
        x.step(0, 39, 0);
        Expect.answer("all have it", 1.0f, () -> x.share());
        x.step(0, 1, 0);
        Expect.thrown("done", Expect.STATE, () -> x.share());
        x.undo(0);
        Expect.answer("being undone, all have it", 1.0f, () -> x.share());
        x.step(0, 39, 0);
        Expect.answer("the first row has it still", 1.0f, () -> x.share());
        x.delete(0);
        Expect.thrown("being undone, no row", Expect.STATE, () -> x.share());
    }
}
