/** Promises 1 and 9 to 15: a new object, the rows, their values and versions. */
public final class TableTest {
    private static final int MOST = 1000000000;
    private static final int[] BAD_IDS = {-1, 40, 41, Integer.MIN_VALUE, Integer.MAX_VALUE};
    private static final int[] BAD_COLUMNS = {-1, 3, Integer.MIN_VALUE, Integer.MAX_VALUE};
    private static final int[] BAD_VALUES = {-MOST - 1, MOST + 1, Integer.MIN_VALUE, Integer.MAX_VALUE};

    public static void main(String[] args) {
        startsEmpty();
        inserts();
        refusesInserts();
        insertsWhileAChangeRuns();
        insertsWhileAChangeIsUndone();
        writes();
        deletes();
        refusesAbsentAndWrongRows();
        countsRows();
        looksAtOtherVersions();
        looksThroughEveryChange();
        refusesToLookAtOtherVersions();
        Expect.end();
    }

    private static void startsEmpty() {
        Migrationledger x = new Migrationledger();
        for (int id = 0; id < 40; id++) {
            int row = id;
            Expect.answer("version " + row, -1, () -> x.version(row));
        }
        for (int version = 0; version <= 12; version++) {
            int v = version;
            Expect.answer("rowsAt " + v, 0, () -> x.rowsAt(v));
        }
        Expect.answer("changes", 0, () -> x.changes());
        Expect.answer("level", 0, () -> x.level());
        Expect.answer("drifted", 0, () -> x.drifted());
        Expect.answer("holder", -1, () -> x.holder());
        Expect.thrown("cursor", Expect.STATE, () -> x.cursor());
        Expect.thrown("share", Expect.STATE, () -> x.share());
    }

    private static void inserts() {
        Migrationledger x = new Migrationledger();
        Expect.answer("insert 0", 0, () -> x.insert(0, -MOST, 0, MOST));
        Expect.answer("insert 39", 0, () -> x.insert(39, MOST, -MOST, 7));
        row(x, 0, -MOST, 0, MOST);
        row(x, 39, MOST, -MOST, 7);
        x.addChange(0, 1, 1);
        finish(x);
        Expect.answer("insert at level 1", 1, () -> x.insert(20, 1, 2, 3));
        Expect.answer("version 20", 1, () -> x.version(20));
        row(x, 20, 1, 2, 3);
    }

    private static void row(Migrationledger x, int id, int... due) {
        for (int column = 0; column < 3; column++) {
            int c = column;
            Expect.answer("value " + id + " " + c, due[c], () -> x.value(id, c));
        }
    }

    private static void refusesInserts() {
        Migrationledger x = new Migrationledger();
        x.insert(1, 4, 5, 6);
        for (int id : BAD_IDS) {
            Expect.thrown("insert " + id, Expect.ARGUMENT, () -> x.insert(id, 0, 0, 0));
        }
        for (int value : BAD_VALUES) {
            Expect.thrown("insert first " + value, Expect.ARGUMENT, () -> x.insert(2, value, 0, 0));
            Expect.thrown("insert second " + value, Expect.ARGUMENT, () -> x.insert(2, 0, value, 0));
            Expect.thrown("insert third " + value, Expect.ARGUMENT, () -> x.insert(2, 0, 0, value));
            Expect.thrown("insert twice " + value, Expect.ARGUMENT, () -> x.insert(1, 0, 0, value));
        }
        Expect.thrown("insert twice", Expect.STATE, () -> x.insert(1, 7, 8, 9));
        row(x, 1, 4, 5, 6);
        Expect.answer("version 2", -1, () -> x.version(2));
    }

    private static void insertsWhileAChangeRuns() {
        Migrationledger x = atLevelOne();
        x.begin(0);
        Expect.answer("insert 0, cursor 0", 1, () -> x.insert(0, 0, 0, 0));
        x.step(0, 10, 0);
        Expect.answer("insert 9, cursor 10", 2, () -> x.insert(9, 0, 0, 0));
        Expect.answer("insert 10, cursor 10", 1, () -> x.insert(10, 0, 0, 0));
        Expect.answer("insert 39, cursor 10", 1, () -> x.insert(39, 0, 0, 0));
        row(x, 9, 0, 0, 0);
        Expect.answer("step goes on", 2, () -> x.step(0, 40, 0));
        Expect.answer("all have it", 4, () -> x.rowsAt(2));
    }

    private static void insertsWhileAChangeIsUndone() {
        Migrationledger x = atLevelOne();
        finish(x);
        x.undo(0);
        Expect.answer("insert 39, cursor 40", 2, () -> x.insert(39, 0, 0, 0));
        x.step(0, 10, 0);
        Expect.answer("insert 30, cursor 30", 1, () -> x.insert(30, 0, 0, 0));
        Expect.answer("insert 29, cursor 30", 2, () -> x.insert(29, 0, 0, 0));
        Expect.answer("insert 0, cursor 30", 2, () -> x.insert(0, 0, 0, 0));
        Expect.answer("step goes on", 2, () -> x.step(0, 40, 0));
        Expect.answer("none has it", 4, () -> x.rowsAt(1));
        Expect.answer("insert when it is undone", 1, () -> x.insert(5, 0, 0, 0));
    }

    private static Migrationledger atLevelOne() {
        Migrationledger x = new Migrationledger();
        x.addChange(0, 0, 1);
        x.addChange(0, 0, 2);
        x.take(0, 100);
        finish(x);
        return x;
    }

    private static void writes() {
        Migrationledger x = atLevelOne();
        x.insert(3, 1, 2, 3);
        x.begin(0);
        Expect.answer("write 0", 1, () -> x.write(3, 0, -MOST));
        Expect.answer("write 1", 2, () -> x.write(3, 1, MOST));
        Expect.answer("write 2", 3, () -> x.write(3, 2, 8));
        Expect.answer("write 2 again", 8, () -> x.write(3, 2, 9));
        row(x, 3, -MOST, MOST, 9);
        Expect.answer("version stays", 1, () -> x.version(3));
        for (int value : BAD_VALUES) {
            Expect.thrown("write value " + value, Expect.ARGUMENT, () -> x.write(3, 0, value));
            Expect.thrown("write absent " + value, Expect.ARGUMENT, () -> x.write(4, 0, value));
        }
        row(x, 3, -MOST, MOST, 9);
    }

    private static void deletes() {
        Migrationledger x = atLevelOne();
        x.insert(3, 1, 2, 3);
        x.insert(4, 5, 6, 7);
        Expect.answer("delete", 1, () -> x.delete(3));
        Expect.answer("version of it", -1, () -> x.version(3));
        Expect.thrown("delete again", Expect.INDEX, () -> x.delete(3));
        row(x, 4, 5, 6, 7);
        Expect.answer("insert again", 1, () -> x.insert(3, 8, 9, 10));
        row(x, 3, 8, 9, 10);
    }

    private static void refusesAbsentAndWrongRows() {
        Migrationledger x = new Migrationledger();
        x.insert(1, 0, 0, 0);
        for (int id : BAD_IDS) {
            Expect.thrown("write " + id, Expect.ARGUMENT, () -> x.write(id, 0, 0));
            Expect.thrown("delete " + id, Expect.ARGUMENT, () -> x.delete(id));
            Expect.thrown("value " + id, Expect.ARGUMENT, () -> x.value(id, 0));
            Expect.thrown("version " + id, Expect.ARGUMENT, () -> x.version(id));
            Expect.thrown("valueAt " + id, Expect.ARGUMENT, () -> x.valueAt(id, 0, 0));
        }
        for (int id = 0; id <= 1; id++) {
            int row = id;
            for (int column : BAD_COLUMNS) {
                String at = row + " " + column;
                Expect.thrown("write " + at, Expect.ARGUMENT, () -> x.write(row, column, 0));
                Expect.thrown("value " + at, Expect.ARGUMENT, () -> x.value(row, column));
                Expect.thrown("valueAt " + at, Expect.ARGUMENT, () -> x.valueAt(row, column, 0));
            }
        }
        Expect.thrown("write absent", Expect.INDEX, () -> x.write(0, 0, 0));
        Expect.thrown("delete absent", Expect.INDEX, () -> x.delete(0));
        Expect.thrown("value absent", Expect.INDEX, () -> x.value(0, 0));
        Expect.thrown("valueAt absent", Expect.INDEX, () -> x.valueAt(0, 0, 0));
        Expect.answer("version absent", -1, () -> x.version(0));
    }

    private static void countsRows() {
        Migrationledger x = atLevelOne();
        x.insert(1, 0, 0, 0);
        x.insert(2, 0, 0, 0);
        x.insert(3, 0, 0, 0);
        x.begin(0);
        x.step(0, 3, 0);
        Expect.answer("rowsAt 0", 0, () -> x.rowsAt(0));
        Expect.answer("rowsAt 1", 1, () -> x.rowsAt(1));
        Expect.answer("rowsAt 2", 2, () -> x.rowsAt(2));
        Expect.answer("rowsAt 3", 0, () -> x.rowsAt(3));
        Expect.answer("rowsAt 12", 0, () -> x.rowsAt(12));
        x.delete(1);
        Expect.answer("rowsAt 2, one less", 1, () -> x.rowsAt(2));
        int[] bad = {-1, 13, -2, Integer.MIN_VALUE, Integer.MAX_VALUE};
        for (int version : bad) {
            Expect.thrown("rowsAt " + version, Expect.ARGUMENT, () -> x.rowsAt(version));
        }
    }

    private static void looksAtOtherVersions() {
        Migrationledger x = new Migrationledger();
        x.addChange(0, 0, 5);
        x.addChange(1, 0, -3);
        x.addChange(2, 0, 2);
        x.insert(6, 1, 2, 3);
        int[][] due = {{1, 2, 3}, {6, 2, 3}, {-18, 2, 3}, {3, 2, -18}};
        for (int done = 0; done <= 3; done++) {
            for (int version = 0; version <= 3; version++) {
                for (int column = 0; column < 3; column++) {
                    int v = version;
                    int c = column;
                    Expect.answer("valueAt " + c + " " + v + " from " + done, due[v][c],
                            () -> x.valueAt(6, c, v));
                }
            }
            row(x, 6, due[done]);
            int before = done;
            Expect.answer("version", before, () -> x.version(6));
            finish(x);
        }
        x.edit(2, 1, 0, 6);
        Expect.answer("as they are now", -3 - 5, () -> x.valueAt(6, 0, 0));
        x.edit(3, 2, 1, 2);
        Expect.answer("an edited exchange", -18, () -> x.valueAt(6, 1, 2));
    }

    private static void looksThroughEveryChange() {
        Migrationledger x = new Migrationledger();
        for (int i = 0; i < 12; i++) {
            x.addChange(0, 0, 1);
        }
        x.insert(6, 0, 0, 0);
        Expect.answer("12 changes ahead", 12, () -> x.valueAt(6, 0, 12));
        for (int i = 0; i < 12; i++) {
            x.take(0, 100);
            finish(x);
        }
        Expect.answer("version", 12, () -> x.version(6));
        Expect.answer("rowsAt 12", 1, () -> x.rowsAt(12));
        Expect.answer("12 changes back", 0, () -> x.valueAt(6, 0, 0));
        Expect.thrown("begin a 13th", Expect.STATE, () -> x.begin(0));
    }

    private static void refusesToLookAtOtherVersions() {
        Migrationledger x = new Migrationledger();
        x.insert(6, MOST, MOST, 7);
        Expect.answer("no changes", MOST, () -> x.valueAt(6, 0, 0));
        Expect.thrown("version above no changes", Expect.ARGUMENT, () -> x.valueAt(6, 0, 1));
        x.addChange(0, 0, 1);
        x.addChange(1, 0, 2);
        Expect.thrown("cannot be added", Expect.STATE, () -> x.valueAt(6, 0, 1));
        Expect.thrown("cannot be added, another column", Expect.STATE, () -> x.valueAt(6, 2, 2));
        Expect.thrown("version -1", Expect.ARGUMENT, () -> x.valueAt(6, 0, -1));
        Expect.thrown("version 3", Expect.ARGUMENT, () -> x.valueAt(6, 0, 3));
        Expect.thrown("version 3, absent", Expect.ARGUMENT, () -> x.valueAt(7, 0, 3));
        Expect.thrown("version high", Expect.ARGUMENT, () -> x.valueAt(6, 0, Integer.MAX_VALUE));
        Expect.thrown("version low", Expect.ARGUMENT, () -> x.valueAt(6, 0, Integer.MIN_VALUE));
        row(x, 6, MOST, MOST, 7);
        x.edit(1, 0, 0, -1);
        Expect.answer("can be added now", MOST - 1, () -> x.valueAt(6, 0, 1));
        Expect.thrown("cannot be multiplied", Expect.STATE, () -> x.valueAt(6, 0, 2));
        x.edit(2, 1, 0, 9);
        Expect.thrown("would wrap around", Expect.STATE, () -> x.valueAt(6, 0, 2));
        x.edit(2, 1, 0, -1);
        Expect.answer("can be multiplied now", 1 - MOST, () -> x.valueAt(6, 0, 2));
        x.take(0, 100);
        finish(x);
        finish(x);
        Expect.answer("undone", MOST, () -> x.valueAt(6, 0, 0));
        x.write(6, 0, -MOST);
        Expect.thrown("cannot be subtracted", Expect.STATE, () -> x.valueAt(6, 0, 0));
        Expect.answer("but divided", MOST, () -> x.valueAt(6, 0, 1));
        x.edit(2, 1, 0, 3);
        Expect.thrown("cannot be divided", Expect.STATE, () -> x.valueAt(6, 0, 1));
        Expect.answer("nothing to do", -MOST, () -> x.valueAt(6, 0, 2));
    }

    private static void finish(Migrationledger x) {
        x.take(0, 100);
        if (x.level() < x.changes()) {
            x.begin(0);
            x.step(0, 40, 0);
        }
    }
}
