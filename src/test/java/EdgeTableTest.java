/**
 * The edges of "Terms" that concern the table: its first and last row and column, rows that are absent,
 * the bounds of the values, and the versions from 0 to 12 with every cursor.
 */
public final class EdgeTableTest {
    private static final int MOST = Ledgers.MOST;
    private static final int ROWS = Ledgers.ROWS;
    private static final int FULL = Ledgers.MOST_CHANGES;

    public static void main(String[] args) {
        emptyTable();
        fullTable();
        eachRowAlone();
        cellsAtTheirBounds();
        insertsAtEachLevel();
        insertsAtEachCursor();
        writesWhateverTheVersion();
        deletesAtEachVersion();
        deletedRowsAreForgotten();
        countsOfNoneAndOfAll();
        countsAtEachCursor();
        looksFromEachVersionToEach();
        looksPastAnImpossibleChange();
        looksAtItsOwnVersion();
        looksThroughValuesOutOfRange();
        looksWithEditedChanges();
        looksOnBothSidesOfTheCursor();
        Expect.end();
    }

    /** "A row is absent, as all are at first" */
    private static void emptyTable() {
        Migrationledger x = new Migrationledger();
        for (int id = 0; id < ROWS; id++) {
            absent(x, id);
        }
        for (int version = 0; version <= FULL; version++) {
            int v = version;
            Expect.answer("rowsAt " + v, 0, () -> x.rowsAt(v));
        }
    }

    private static void absent(Migrationledger x, int id) {
        Expect.answer("version " + id, -1, () -> x.version(id));
        Expect.thrown("delete " + id, Expect.INDEX, () -> x.delete(id));
        for (int column = 0; column < 3; column++) {
            int c = column;
            Expect.thrown("value " + id, Expect.INDEX, () -> x.value(id, c));
            Expect.thrown("write " + id, Expect.INDEX, () -> x.write(id, c, 1));
            Expect.thrown("valueAt " + id, Expect.INDEX, () -> x.valueAt(id, c, 0));
        }
    }

    /** "The table has 40 rows": all are put in, each with values of its own, and none a second time. */
    private static void fullTable() {
        Migrationledger x = new Migrationledger();
        for (int id = 0; id < ROWS; id++) {
            int i = id;
            Expect.answer("insert " + i, 0, () -> x.insert(i, i * 3, i * 3 + 1, i * 3 + 2));
            Expect.answer("rowsAt 0", i + 1, () -> x.rowsAt(0));
        }
        for (int id = 0; id < ROWS; id++) {
            int i = id;
            Expect.thrown("insert again " + i, Expect.STATE, () -> x.insert(i, 0, 0, 0));
            for (int column = 0; column < 3; column++) {
                int c = column;
                Expect.answer("value " + i + ", " + c, i * 3 + c, () -> x.value(i, c));
            }
        }
        Expect.thrown("insert a 41st", Expect.ARGUMENT, () -> x.insert(40, 0, 0, 0));
        Expect.answer("rowsAt 0", 40, () -> x.rowsAt(0));
    }

    /** One row is put in and taken out: the rows beside it stay absent. */
    private static void eachRowAlone() {
        for (int id = 0; id < ROWS; id++) {
            int i = id;
            Migrationledger x = new Migrationledger();
            x.insert(i, 1, 2, 3);
            for (int other = 0; other < ROWS; other++) {
                int o = other;
                Expect.answer("version " + o + " beside " + i, o == i ? 0 : -1, () -> x.version(o));
            }
            Expect.answer("delete " + i, 0, () -> x.delete(i));
            absent(x, i);
            Expect.answer("insert anew " + i, 0, () -> x.insert(i, 4, 5, 6));
            Expect.answer("value " + i, 6, () -> x.value(i, 2));
        }
    }

    /** "Values are whole numbers from -1000000000 to 1000000000": each cell at both ends, the others as they
     * were. */
    private static void cellsAtTheirBounds() {
        for (int column = 0; column < 3; column++) {
            int c = column;
            for (int id = 0; id < ROWS; id += 13) {
                int i = id;
                Migrationledger x = new Migrationledger();
                Ledgers.fill(x);
                int before = x.value(i, c);
                Expect.answer("write the least", before, () -> x.write(i, c, -MOST));
                Expect.answer("write the greatest", -MOST, () -> x.write(i, c, MOST));
                Expect.thrown("write one more", Expect.ARGUMENT, () -> x.write(i, c, MOST + 1));
                Expect.answer("value", MOST, () -> x.value(i, c));
                Expect.answer("write 0", MOST, () -> x.write(i, c, 0));
                Expect.thrown("write one less than the least", Expect.ARGUMENT, () -> x.write(i, c, -MOST - 1));
                Expect.answer("value", 0, () -> x.value(i, c));
                othersAsFilled(x, i, c);
            }
        }
    }

    private static void othersAsFilled(Migrationledger x, int id, int column) {
        for (int i = 0; i < ROWS; i++) {
            for (int c = 0; c < 3; c++) {
                int row = i;
                int cell = c;
                int due = c == 0 ? i : c == 1 ? 100 : -100;
                if (row != id || cell != column) {
                    Expect.answer("value " + row + ", " + cell, due, () -> x.value(row, cell));
                }
            }
        }
    }

    /** insert: "Its version is the level, if no change is running or being undone." */
    private static void insertsAtEachLevel() {
        for (int done = 0; done <= FULL; done++) {
            int level = done;
            Migrationledger x = Ledgers.withDone(level, FULL);
            Expect.answer("insert 0 at " + level, level, () -> x.insert(0, 0, 0, 0));
            Expect.answer("insert 39 at " + level, level, () -> x.insert(39, 0, 0, 0));
            Expect.answer("version 39 at " + level, level, () -> x.version(39));
            Expect.answer("rowsAt " + level, 2, () -> x.rowsAt(level));
            if (level > 0) {
                Ledgers.takeBack(x);
                Expect.answer("insert 1 when it is undone", level - 1, () -> x.insert(1, 0, 0, 0));
                Expect.answer("version 0 when it is undone", level - 1, () -> x.version(0));
            }
        }
    }

    /** insert: "the number of that change, if the change is running and the id is below the cursor, or the
     * change is being undone and the id is below the cursor; and 1 less ... in all other cases." */
    private static void insertsAtEachCursor() {
        for (int at = 0; at < ROWS; at++) {
            Migrationledger up = Ledgers.running(at, false);
            Migrationledger down = Ledgers.beingUndone(at + 1, false);
            for (int id = 0; id < ROWS; id++) {
                int i = id;
                int cursor = at;
                Expect.answer("insert " + i + ", running at " + cursor, i < cursor ? 1 : 0,
                        () -> up.insert(i, 5, 5, 5));
                Expect.answer("insert " + i + ", being undone at " + (cursor + 1), i < cursor + 1 ? 1 : 0,
                        () -> down.insert(i, 5, 5, 5));
                Expect.answer("version " + i, i < cursor ? 1 : 0, () -> up.version(i));
                Expect.answer("version " + i, i < cursor + 1 ? 1 : 0, () -> down.version(i));
            }
            Expect.answer("the rest is applied from " + at, ROWS - at, () -> up.step(0, 40, 0));
            Expect.answer("the rest is undone from " + (at + 1), at + 1, () -> down.step(0, 40, 0));
            Expect.answer("all have it", ROWS, () -> up.rowsAt(1));
            Expect.answer("none has it", ROWS, () -> down.rowsAt(0));
        }
    }

    /** write: "The version of the row stays." value: "the value as it is, whatever the version of the row." */
    private static void writesWhateverTheVersion() {
        Migrationledger x = Ledgers.running(20, true);
        for (int id = 0; id < ROWS; id++) {
            int i = id;
            int version = i < 20 ? 1 : 0;
            Expect.answer("write " + i, i + version, () -> x.write(i, 0, 7));
            Expect.answer("value " + i, 7, () -> x.value(i, 0));
            Expect.answer("version " + i, version, () -> x.version(i));
        }
        Expect.answer("step", 20, () -> x.step(0, 40, 0));
        Expect.answer("a row written ahead of the cursor", 8, () -> x.value(20, 0));
        Expect.answer("a row written behind it", 7, () -> x.value(19, 0));
    }

    /** delete: "Returns its version", from 0 to 12, and on both sides of a cursor. */
    private static void deletesAtEachVersion() {
        for (int done = 0; done <= FULL; done++) {
            int level = done;
            Migrationledger x = Ledgers.withDone(level, FULL);
            x.insert(0, 0, 0, 0);
            x.insert(39, 0, 0, 0);
            Expect.answer("delete 0", level, () -> x.delete(0));
            Expect.answer("delete 39", level, () -> x.delete(39));
            Expect.answer("rowsAt " + level, 0, () -> x.rowsAt(level));
            Expect.answer("version 0", -1, () -> x.version(0));
        }
        Migrationledger y = Ledgers.running(20, true);
        Expect.answer("delete behind the cursor", 1, () -> y.delete(19));
        Expect.answer("delete at the cursor", 0, () -> y.delete(20));
        Expect.thrown("delete it again", Expect.INDEX, () -> y.delete(20));
        Expect.answer("the others are changed", 19, () -> y.step(0, 40, 0));
        Expect.answer("version 19 stays absent", -1, () -> y.version(19));
        Expect.answer("version 20 stays absent", -1, () -> y.version(20));
    }

    /** A row put in again has nothing of the row that was deleted, its version neither. */
    private static void deletedRowsAreForgotten() {
        Migrationledger x = Ledgers.running(0, true);
        x.step(0, 40, 10);
        Expect.answer("version 9 behind the crash", 1, () -> x.version(9));
        Expect.answer("delete 9", 1, () -> x.delete(9));
        Expect.answer("insert 9, cursor 0", 0, () -> x.insert(9, MOST - 1, -1, -2));
        x.restart(0);
        Expect.answer("9 is changed, 0 to 8 are not", 31, () -> x.step(0, 40, 0));
        Expect.answer("value 9", MOST, () -> x.value(9, 0));
        Expect.answer("value 8", 9, () -> x.value(8, 0));
        Expect.answer("delete 9 when done", 1, () -> x.delete(9));
        Ledgers.takeBack(x);
        Expect.answer("insert 9 when undone", 0, () -> x.insert(9, 1, 2, 3));
        Expect.answer("rowsAt 0", 40, () -> x.rowsAt(0));
    }

    /** rowsAt: no row, all rows, and absent rows, which have no version. */
    private static void countsOfNoneAndOfAll() {
        Migrationledger x = Ledgers.withChanges(FULL);
        Ledgers.fill(x);
        for (int level = 0; level <= FULL; level++) {
            for (int version = 0; version <= FULL; version++) {
                int v = version;
                Expect.answer("rowsAt " + v + " at " + level, v == level ? ROWS : 0, () -> x.rowsAt(v));
            }
            if (level < FULL) {
                Ledgers.finish(x);
            }
        }
        for (int id = 0; id < ROWS; id++) {
            x.delete(id);
            int left = ROWS - 1 - id;
            Expect.answer("rowsAt 12 without the rows up to " + id, left, () -> x.rowsAt(12));
        }
        Expect.answer("rowsAt 0 of no row", 0, () -> x.rowsAt(0));
        Expect.thrown("rowsAt -1 of no row", Expect.ARGUMENT, () -> x.rowsAt(-1));
        Expect.thrown("rowsAt 13 of no row", Expect.ARGUMENT, () -> x.rowsAt(13));
    }

    private static void countsAtEachCursor() {
        for (int at = 0; at < ROWS; at++) {
            int cursor = at;
            Migrationledger up = Ledgers.running(cursor, true);
            Expect.answer("rowsAt 1, running at " + cursor, cursor, () -> up.rowsAt(1));
            Expect.answer("rowsAt 0, running at " + cursor, ROWS - cursor, () -> up.rowsAt(0));
            Migrationledger down = Ledgers.beingUndone(cursor + 1, true);
            Expect.answer("rowsAt 1, being undone at " + (cursor + 1), cursor + 1, () -> down.rowsAt(1));
            Expect.answer("rowsAt 0, being undone at " + (cursor + 1), ROWS - cursor - 1, () -> down.rowsAt(0));
        }
    }

    // ---- valueAt

    /** Twelve changes of all kinds; the row starts with 1, 2 and 3. */
    private static final int[][] TWELVE = {
        {0, 0, 5}, {1, 1, -3}, {2, 0, 1}, {0, 2, -1000}, {1, 0, 9}, {2, 2, 1},
        {0, 1, 1000}, {1, 2, 2}, {2, 1, 0}, {0, 0, -1}, {1, 1, -1}, {2, 0, 2}};
    private static final int[][] ROW_AT = {
        {1, 2, 3}, {6, 2, 3}, {6, -6, 3}, {-6, 6, 3}, {-6, 6, -997}, {-54, 6, -997}, {-54, -997, 6},
        {-54, 3, 6}, {-54, 3, 12}, {3, -54, 12}, {2, -54, 12}, {2, 54, 12}, {12, 54, 2}};

    /** "version: 0 up to the number of changes", from each version that a row can have. */
    private static void looksFromEachVersionToEach() {
        for (int done = 0; done <= FULL; done++) {
            Migrationledger x = withTwelve(done);
            for (int version = 0; version <= FULL; version++) {
                for (int column = 0; column < 3; column++) {
                    int c = column;
                    int v = version;
                    Expect.answer("valueAt " + c + ", " + v + " from " + done, ROW_AT[v][c],
                            () -> x.valueAt(39, c, v));
                }
            }
            int level = done;
            Expect.thrown("valueAt -1", Expect.ARGUMENT, () -> x.valueAt(39, 0, -1));
            Expect.thrown("valueAt 13", Expect.ARGUMENT, () -> x.valueAt(39, 0, 13));
            Expect.answer("version stays", level, () -> x.version(39));
            Expect.answer("value stays", ROW_AT[level][0], () -> x.value(39, 0));
        }
    }

    private static Migrationledger withTwelve(int done) {
        Migrationledger x = new Migrationledger();
        for (int[] c : TWELVE) {
            x.addChange(c[0], c[1], c[2]);
        }
        x.insert(39, 1, 2, 3);
        for (int i = 0; i < done; i++) {
            Ledgers.finish(x);
        }
        return x;
    }

    /** "if one of these changes cannot be applied to the row, or undone on it": just those between the two
     * versions count, the first and the last of them too. */
    private static void looksPastAnImpossibleChange() {
        for (int impossible = 1; impossible <= FULL; impossible++) {
            for (int done = 0; done <= FULL; done++) {
                Migrationledger x = new Migrationledger();
                for (int i = 0; i < FULL; i++) {
                    x.addChange(0, 2, 0);
                }
                for (int i = 0; i < done; i++) {
                    Ledgers.finish(x);
                }
                x.insert(0, MOST, -MOST, 0);
                x.edit(impossible, 0, done < impossible ? 0 : 1, 1);
                lookPast(x, done, impossible);
            }
        }
    }

    private static void lookPast(Migrationledger x, int done, int impossible) {
        for (int version = 0; version <= FULL; version++) {
            int v = version;
            boolean passed = done < impossible ? v >= impossible : v < impossible;
            Expect.answer("from " + done + " to " + v + ", " + impossible + " is impossible",
                    passed ? (Object) Expect.STATE : 0, () -> x.valueAt(0, 2, v));
        }
    }

    /** A row looked at in its own version lacks no change and undoes none. */
    private static void looksAtItsOwnVersion() {
        for (int done = 0; done <= FULL; done++) {
            int level = done;
            Migrationledger x = Ledgers.withDone(level, FULL);
            x.insert(0, MOST, 0, 0);
            x.insert(1, -MOST, 0, 0);
            Expect.answer("highest at its own version", MOST, () -> x.valueAt(0, 0, level));
            Expect.answer("least at its own version", -MOST, () -> x.valueAt(1, 0, level));
            if (level < FULL) {
                Expect.thrown("highest one up", Expect.STATE, () -> x.valueAt(0, 0, level + 1));
                Expect.answer("least one up", level + 1 - MOST, () -> x.valueAt(1, 0, level + 1));
            }
            if (level > 0) {
                Expect.answer("highest one down", MOST - level, () -> x.valueAt(0, 0, level - 1));
                Expect.thrown("least one down", Expect.STATE, () -> x.valueAt(1, 0, level - 1));
            }
        }
    }

    /** The changes are applied one after the other: a value that comes back in range later is too late. */
    private static void looksThroughValuesOutOfRange() {
        Migrationledger x = new Migrationledger();
        x.addChange(0, 1, 1);
        x.addChange(0, 1, -1);
        x.insert(0, 0, MOST, 0);
        x.insert(1, 0, MOST - 1, 0);
        Expect.thrown("over the end and back", Expect.STATE, () -> x.valueAt(0, 1, 2));
        Expect.answer("to the end and back", MOST - 1, () -> x.valueAt(1, 1, 2));
        Expect.answer("to the end", MOST, () -> x.valueAt(1, 1, 1));
        x.delete(0);
        Ledgers.finish(x);
        Ledgers.finish(x);
        x.insert(0, 0, MOST, 0);
        Expect.thrown("back over the end", Expect.STATE, () -> x.valueAt(0, 1, 0));
        x.write(0, 1, MOST - 1);
        Expect.answer("back to the end", MOST, () -> x.valueAt(0, 1, 1));
        Expect.answer("and back", MOST - 1, () -> x.valueAt(0, 1, 0));
    }

    /** "as they are now": an edited change counts as it is, though it was done as it was. */
    private static void looksWithEditedChanges() {
        Migrationledger x = Ledgers.withChanges(2);
        x.insert(4, 10, 20, 30);
        Ledgers.finish(x);
        Expect.answer("undo 1 as it was done", 10, () -> x.valueAt(4, 0, 0));
        x.edit(1, 0, 0, -1000);
        Expect.answer("undo 1, edited", 1011, () -> x.valueAt(4, 0, 0));
        x.edit(1, 1, 0, 9);
        Expect.thrown("undo 1, which does not divide 11", Expect.STATE, () -> x.valueAt(4, 0, 0));
        x.edit(1, 2, 0, 2);
        Expect.answer("undo 1, an exchange", 30, () -> x.valueAt(4, 0, 0));
        x.edit(2, 1, 0, 9);
        Expect.answer("apply 2, edited", 99, () -> x.valueAt(4, 0, 2));
        Expect.answer("value", 11, () -> x.value(4, 0));
    }

    /** Rows with and without the change that is running, or being undone. */
    private static void looksOnBothSidesOfTheCursor() {
        Migrationledger[] all = {Ledgers.running(20, true), Ledgers.beingUndone(20, true)};
        for (Migrationledger x : all) {
            for (int id = 0; id < ROWS; id++) {
                int i = id;
                Expect.answer("version " + i, i < 20 ? 1 : 0, () -> x.version(i));
                Expect.answer("valueAt 0 of " + i, i, () -> x.valueAt(i, 0, 0));
                Expect.answer("valueAt 1 of " + i, i + 1, () -> x.valueAt(i, 0, 1));
                Expect.thrown("valueAt 2 of " + i, Expect.ARGUMENT, () -> x.valueAt(i, 0, 2));
            }
            Expect.answer("changes", 1, () -> x.changes());
            x.addChange(1, 0, 2);
            Expect.answer("valueAt 2 of 39", 80, () -> x.valueAt(39, 0, 2));
            Expect.answer("valueAt 2 of 0", 2, () -> x.valueAt(0, 0, 2));
        }
    }
}
