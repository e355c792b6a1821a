/**
 * The edges of "Terms" that concern changes: the list empty and full, the bounds of the operands and of
 * the values that result, the checksum, the states, the level at 0 and at the number of changes, the drift.
 */
public final class EdgeChangesTest {
    private static final int MOST = Ledgers.MOST;
    private static final int FULL = Ledgers.MOST_CHANGES;
    private static final int ADDED = 1000;

    public static void main(String[] args) {
        emptyList();
        numbersFromOneToTwelve();
        fullListStaysUsable();
        sumsAtTheTablesEnds();
        productsAtTheTablesEnds();
        productsBeyondAnInt();
        quotientsThatAreWhole();
        exchangesAtTheTablesEnds();
        checksumsAtTheEnds();
        checksumsOfEqualContents();
        statesAtEachLevel();
        stateEndsWithTheLastId();
        runningAtLevelZeroAndAtTheLast();
        editsAtEachLevel();
        driftOfEachDoneChange();
        driftOfTwoChanges();
        driftIsMeasuredAgainstTheBegin();
        driftHindersBegin();
        driftHindersUndo();
        driftWithOneChecksum();
        Expect.end();
    }

    /** "Creates a runner with an empty table, without changes." */
    private static void emptyList() {
        Migrationledger x = new Migrationledger();
        Expect.answer("changes", 0, () -> x.changes());
        Expect.answer("level", 0, () -> x.level());
        Expect.answer("drifted", 0, () -> x.drifted());
        Expect.thrown("state 1", Expect.INDEX, () -> x.state(1));
        Expect.thrown("checksum 1", Expect.INDEX, () -> x.checksum(1));
        Expect.thrown("edit 1", Expect.INDEX, () -> x.edit(1, 0, 0, 1));
        x.take(0, 100);
        Expect.thrown("begin", Expect.STATE, () -> x.begin(0));
        Expect.thrown("undo", Expect.STATE, () -> x.undo(0));
        Expect.thrown("step", Expect.STATE, () -> x.step(0, 1, 0));
        Expect.thrown("cursor", Expect.STATE, () -> x.cursor());
    }

    /** "Changes are numbered from 1 in the order in which they are added; there are at most 12." */
    private static void numbersFromOneToTwelve() {
        Migrationledger x = new Migrationledger();
        for (int i = 1; i <= FULL; i++) {
            int number = i;
            Expect.thrown("state ahead of " + number, Expect.INDEX, () -> x.state(number));
            Expect.answer("addChange", number, () -> x.addChange(0, 0, number));
            Expect.answer("changes", number, () -> x.changes());
            Expect.answer("state", 0, () -> x.state(number));
            Expect.answer("checksum", (number + 1001) * 7 + number, () -> x.checksum(number));
        }
        Expect.thrown("the 13th", Expect.STATE, () -> x.addChange(0, 0, 13));
        Expect.answer("changes", FULL, () -> x.changes());
        Expect.thrown("state of the 13th", Expect.INDEX, () -> x.state(13));
        Expect.thrown("checksum of the 13th", Expect.INDEX, () -> x.checksum(13));
        Expect.thrown("edit of the 13th", Expect.INDEX, () -> x.edit(13, 0, 0, 1));
        Expect.answer("checksum 12", (12 + 1001) * 7 + 12, () -> x.checksum(12));
    }

    /** A full list refuses a change also when changes are done, run or are undone; none ever leaves it. */
    private static void fullListStaysUsable() {
        Migrationledger x = Ledgers.withDone(FULL, FULL);
        Expect.thrown("all done", Expect.STATE, () -> x.addChange(0, 0, 1));
        x.undo(0);
        Expect.thrown("the last one being undone", Expect.STATE, () -> x.addChange(0, 0, 1));
        x.step(0, 40, 0);
        Expect.thrown("the last one undone", Expect.STATE, () -> x.addChange(0, 0, 1));
        x.begin(0);
        Expect.thrown("the last one running", Expect.STATE, () -> x.addChange(0, 0, 1));
        Expect.answer("edit the 11th", (9 + 1001) * 7 + 11, () -> x.edit(11, 0, 0, 9));
        Expect.answer("changes", FULL, () -> x.changes());
        Migrationledger y = Ledgers.withDone(11, 11);
        y.undo(0);
        Expect.answer("a 12th while the 11th is being undone", 12, () -> y.addChange(0, 0, 1));
        Expect.answer("its state", 0, () -> y.state(12));
    }

    // ---- kinds, operands and the table's values

    /** The change alone, on one row: "A change can be applied to a row if the value that results is one
     * that the table can have." */
    private static void applied(int kind, int operand, int before, long result) {
        for (int column = 0; column < 3; column++) {
            int c = column;
            String what = "kind " + kind + " by " + operand + " on " + before + " in column " + c;
            Migrationledger x = started(kind, c, operand, before);
            boolean can = result >= -MOST && result <= MOST;
            Expect.answer("valueAt, " + what, can ? (Object) (int) result : Expect.STATE,
                    () -> x.valueAt(3, c, 1));
            Expect.answer("step, " + what, can ? 1 : -100, () -> x.step(0, 40, 0));
            Expect.answer("version, " + what, can ? 1 : 0, () -> x.version(3));
            Expect.answer("state, " + what, can ? 2 : 1, () -> x.state(1));
            Expect.answer("value, " + what, can ? (int) result : before, () -> x.value(3, c));
            Expect.answer("next column, " + what, 7, () -> x.value(3, (c + 1) % 3));
            Expect.answer("last column, " + what, 7, () -> x.value(3, (c + 2) % 3));
        }
    }

    private static Migrationledger started(int kind, int column, int operand, int value) {
        Migrationledger x = new Migrationledger();
        x.addChange(kind, column, operand);
        x.insert(3, 7, 7, 7);
        x.write(3, column, value);
        x.take(0, 100);
        x.begin(0);
        return x;
    }

    /** The change is done on a 0, then the value is written: "it can be undone on a row if the value that
     * results is a whole number that the table can have." */
    private static void undone(int kind, int operand, int before, boolean can, int result) {
        for (int column = 0; column < 3; column++) {
            int c = column;
            String what = "undo kind " + kind + " by " + operand + " on " + before + " in column " + c;
            Migrationledger x = started(kind, c, operand, 0);
            x.step(0, 40, 0);
            x.write(3, c, before);
            Expect.answer("valueAt, " + what, can ? (Object) result : Expect.STATE, () -> x.valueAt(3, c, 0));
            x.undo(0);
            Expect.answer("step, " + what, can ? 1 : -100, () -> x.step(0, 40, 0));
            Expect.answer("version, " + what, can ? 0 : 1, () -> x.version(3));
            Expect.answer("state, " + what, can ? 0 : 3, () -> x.state(1));
            Expect.answer("value, " + what, can ? result : before, () -> x.value(3, c));
            Expect.answer("next column, " + what, 7, () -> x.value(3, (c + 1) % 3));
        }
    }

    /** "Kind 0 adds the operand to the column." "the operand is subtracted" */
    private static void sumsAtTheTablesEnds() {
        int[] operands = {-ADDED, -999, -1, 0, 1, 999, ADDED};
        for (int operand : operands) {
            for (int near = -1; near <= 1; near++) {
                sum(operand, MOST - operand + near);
                sum(operand, -MOST - operand + near);
                difference(operand, MOST + operand + near);
                difference(operand, -MOST + operand + near);
            }
            sum(operand, 0);
            difference(operand, 0);
        }
    }

    private static boolean isTableValue(long value) {
        return value >= -MOST && value <= MOST;
    }

    private static void sum(int operand, int before) {
        if (isTableValue(before)) {
            applied(0, operand, before, (long) before + operand);
        }
    }

    private static void difference(int operand, int before) {
        if (isTableValue(before)) {
            undone(0, operand, before, isTableValue((long) before - operand), before - operand);
        }
    }

    /** "Kind 1 multiplies the column by the operand." */
    private static void productsAtTheTablesEnds() {
        for (int operand = -9; operand <= 9; operand++) {
            if (operand == 0) {
                continue;
            }
            int most = MOST / Math.abs(operand);
            for (int before = most - 1; before <= most + 1 && before <= MOST; before++) {
                applied(1, operand, before, (long) before * operand);
                applied(1, operand, -before, -(long) before * operand);
            }
            applied(1, operand, 0, 0);
        }
    }

    /** Products that an int would wrap around into the table's range again. */
    private static void productsBeyondAnInt() {
        for (int operand = -9; operand <= 9; operand++) {
            long wrapped = 1L << 32;
            if (Math.abs(operand) >= 5) {
                int before = (int) (wrapped / Math.abs(operand));
                applied(1, operand, before, (long) before * operand);
                applied(1, operand, -before, -(long) before * operand);
            }
            if (operand != 0) {
                applied(1, operand, MOST, (long) MOST * operand);
                applied(1, operand, -MOST, -(long) MOST * operand);
            }
        }
    }

    /** "the column is divided by the operand": each remainder, on both sides of 0, and at both ends. */
    private static void quotientsThatAreWhole() {
        for (int operand = -9; operand <= 9; operand++) {
            if (operand == 0) {
                continue;
            }
            for (int before = -19; before <= 19; before++) {
                undone(1, operand, before, before % operand == 0, before / operand);
            }
            for (int near = 0; near <= 9; near++) {
                undone(1, operand, MOST - near, (MOST - near) % operand == 0, (MOST - near) / operand);
                undone(1, operand, near - MOST, (near - MOST) % operand == 0, (near - MOST) / operand);
            }
        }
    }

    /** "Kind 2 exchanges the values of the column and of the column that the operand names." */
    private static void exchangesAtTheTablesEnds() {
        int[] row = {MOST, -MOST, 0};
        for (int column = 0; column < 3; column++) {
            for (int other = 0; other < 3; other++) {
                if (other != column) {
                    int[] due = row.clone();
                    due[column] = row[other];
                    due[other] = row[column];
                    exchange(column, other, row, due);
                }
            }
        }
    }

    private static void exchange(int column, int other, int[] row, int[] due) {
        Migrationledger x = new Migrationledger();
        x.addChange(2, column, other);
        x.insert(39, row[0], row[1], row[2]);
        row(x, row);
        for (int i = 0; i < 3; i++) {
            int c = i;
            Expect.answer("valueAt 1", due[c], () -> x.valueAt(39, c, 1));
        }
        Ledgers.finish(x);
        row(x, due);
        for (int i = 0; i < 3; i++) {
            int c = i;
            Expect.answer("valueAt 0", row[c], () -> x.valueAt(39, c, 0));
        }
        Ledgers.takeBack(x);
        row(x, row);
    }

    private static void row(Migrationledger x, int[] due) {
        for (int i = 0; i < 3; i++) {
            int c = i;
            Expect.answer("value " + c, due[c], () -> x.value(39, c));
        }
    }

    // ---- checksums

    /** The least and the greatest one, and both sides of each place at which 65521 is taken off. */
    private static void checksumsAtTheEnds() {
        checksum(1, 0, 0, -1000, 8);
        checksum(12, 0, 0, 1000, 14019);
        checksum(12, 0, 2, 1000, 42061);
        checksum(1, 1, 0, -9, 48470);
        checksum(12, 1, 1, 9, 62628);
        checksum(1, 1, 2, -9, 10991);
        checksum(12, 1, 2, 9, 11128);
        checksum(1, 2, 0, 1, 24544);
        checksum(12, 2, 0, 2, 24562);
        checksum(12, 2, 2, 1, 52597);
        checksum(7, 2, 1, 0, 38564);
    }

    private static void checksum(int number, int kind, int column, int operand, int due) {
        Migrationledger x = Ledgers.withChanges(number - 1);
        x.addChange(kind, column, operand);
        String what = "checksum of " + number + ": " + kind + ", " + column + ", " + operand;
        Expect.answer(what, due, () -> x.checksum(number));
        x.edit(number, 0, 1, 500);
        Expect.answer(what + ", edited", due, () -> x.edit(number, kind, column, operand));
        Expect.answer(what + ", then", due, () -> x.checksum(number));
    }

    /** Two changes with one content differ by their numbers. */
    private static void checksumsOfEqualContents() {
        Migrationledger x = new Migrationledger();
        for (int i = 1; i <= FULL; i++) {
            x.addChange(1, 1, 9);
        }
        for (int i = 1; i <= FULL; i++) {
            int number = i;
            Expect.answer("checksum " + number, 62616 + number, () -> x.checksum(number));
        }
    }

    // ---- states and the level

    /** "The done changes are always the first ones": the states of all 12 at each level, up and down. */
    private static void statesAtEachLevel() {
        Migrationledger up = Ledgers.withChanges(FULL);
        up.take(0, 100);
        for (int level = 0; level < FULL; level++) {
            states(up, level, 0);
            up.begin(0);
            states(up, level, 1);
            up.step(0, 40, 0);
        }
        states(up, FULL, 0);
        Expect.thrown("begin a 13th", Expect.STATE, () -> up.begin(0));
        Migrationledger down = Ledgers.withDone(FULL, FULL);
        for (int level = FULL; level > 0; level--) {
            down.undo(0);
            states(down, level - 1, 3);
            down.step(0, 40, 0);
            states(down, level - 1, 0);
        }
        Expect.thrown("undo a 0th", Expect.STATE, () -> down.undo(0));
    }

    private static void states(Migrationledger x, int level, int next) {
        Expect.answer("level", level, () -> x.level());
        for (int i = 1; i <= FULL; i++) {
            int number = i;
            int behind = number == level + 1 ? next : 0;
            Expect.answer("state " + number + " at " + level, number <= level ? 2 : behind,
                    () -> x.state(number));
        }
    }

    /** A change with ids left is running, or being undone; without ids left it is not. */
    private static void stateEndsWithTheLastId() {
        for (int cursor = 0; cursor < 40; cursor++) {
            Migrationledger x = Ledgers.running(cursor, false);
            Expect.answer("running at " + cursor, 1, () -> x.state(1));
            Expect.answer("level at " + cursor, 0, () -> x.level());
            x.step(0, 40 - cursor, 0);
            Expect.answer("done from " + cursor, 2, () -> x.state(1));
            Expect.answer("level from " + cursor, 1, () -> x.level());
            Migrationledger y = Ledgers.beingUndone(cursor + 1, false);
            Expect.answer("being undone at " + (cursor + 1), 3, () -> y.state(1));
            Expect.answer("level then", 0, () -> y.level());
            y.step(0, cursor + 1, 0);
            Expect.answer("pending from " + (cursor + 1), 0, () -> y.state(1));
            Expect.answer("level then", 0, () -> y.level());
        }
    }

    /** "a change that is being undone does not count", nor does a running one. */
    private static void runningAtLevelZeroAndAtTheLast() {
        for (int done = 0; done <= 11; done += 11) {
            int level = done;
            Migrationledger x = Ledgers.withDone(level, level + 1);
            x.take(0, 100);
            Expect.answer("begin", level + 1, () -> x.begin(0));
            Expect.answer("level, running", level, () -> x.level());
            Expect.answer("undo", level + 1, () -> x.undo(0));
            Expect.answer("level, being undone", level, () -> x.level());
            x.step(0, 40, 0);
            Expect.answer("level, undone", level, () -> x.level());
            x.begin(0);
            x.step(0, 40, 0);
            Expect.answer("level, done", level + 1, () -> x.level());
            Expect.thrown("begin one more", Expect.STATE, () -> x.begin(0));
        }
    }

    /** "Edits a change, whether or not it is done"; only the one at work is refused. */
    private static void editsAtEachLevel() {
        int[] phases = {0, 1, 3};
        for (int done = 0; done <= FULL; done++) {
            for (int phase : phases) {
                if (phase == 0 || done < FULL) {
                    editEach(atWork(done, phase), done, phase == 0 ? 0 : done + 1);
                }
            }
        }
    }

    /** With so many done; the next one is running in phase 1 and being undone in phase 3. */
    private static Migrationledger atWork(int done, int phase) {
        Migrationledger x = Ledgers.withDone(done, FULL);
        if (phase != 0) {
            x.take(0, 100);
            x.begin(0);
            x.step(0, 20, 0);
        }
        if (phase == 3) {
            x.undo(0);
        }
        return x;
    }

    private static void editEach(Migrationledger x, int done, int atWork) {
        for (int i = 1; i <= FULL; i++) {
            int number = i;
            int due = (31 * 2003 + 9 + 1001) * 7 + number;
            String what = "edit " + number + " with " + done + " done, " + atWork + " at work";
            if (number == atWork) {
                Expect.thrown(what, Expect.STATE, () -> x.edit(number, 1, 0, 9));
                Expect.answer("its checksum", (number + 1001) * 7 + number, () -> x.checksum(number));
            } else {
                Expect.answer(what, due % 65521, () -> x.edit(number, 1, 0, 9));
            }
        }
    }

    // ---- drift

    private static int edited(Migrationledger x, int number) {
        return x.edit(number, 0, 0, 900 + number);
    }

    private static int mended(Migrationledger x, int number) {
        return x.edit(number, 0, 0, number);
    }

    /** "A done change has drifted if its checksum is not the recorded one", and no other change has. */
    private static void driftOfEachDoneChange() {
        for (int done = 0; done <= FULL; done++) {
            Migrationledger x = Ledgers.withDone(done, FULL);
            for (int i = 1; i <= FULL; i++) {
                int number = i;
                edited(x, number);
                Expect.answer("drifted, " + number + " edited, " + done + " done", number <= done ? number : 0,
                        () -> x.drifted());
                mended(x, number);
                Expect.answer("drifted, " + number + " mended", 0, () -> x.drifted());
            }
        }
    }

    /** "Returns the first change that has drifted." */
    private static void driftOfTwoChanges() {
        Migrationledger x = Ledgers.withDone(FULL, FULL);
        for (int i = FULL; i >= 1; i--) {
            int number = i;
            edited(x, number);
            Expect.answer("drifted from " + number + " on", number, () -> x.drifted());
        }
        for (int i = 1; i <= FULL; i++) {
            int next = i == FULL ? 0 : i + 1;
            mended(x, i);
            Expect.answer("drifted behind " + i, next, () -> x.drifted());
        }
    }

    /** "When a change is begun, its checksum is recorded": the one then, not the one when it was added. */
    private static void driftIsMeasuredAgainstTheBegin() {
        Migrationledger x = Ledgers.withChanges(1);
        edited(x, 1);
        Ledgers.finish(x);
        Expect.answer("edited ahead of the begin", 0, () -> x.drifted());
        mended(x, 1);
        Expect.answer("as it was added", 1, () -> x.drifted());
        edited(x, 1);
        Expect.answer("as it was begun", 0, () -> x.drifted());
        Ledgers.takeBack(x);
        mended(x, 1);
        Expect.answer("undone and edited", 0, () -> x.drifted());
        x.begin(0);
        Expect.answer("begun anew", 0, () -> x.drifted());
        x.undo(0);
        x.step(0, 40, 0);
        Ledgers.finish(x);
        Expect.answer("recorded anew", 0, () -> x.drifted());
        edited(x, 1);
        Expect.answer("as it was begun the first time", 1, () -> x.drifted());
    }

    /** begin: "a done change has drifted", be it the first or the last of them. */
    private static void driftHindersBegin() {
        for (int i = 1; i <= 11; i++) {
            int number = i;
            Migrationledger x = Ledgers.withDone(11, FULL);
            edited(x, number);
            Expect.thrown("begin, " + number + " drifted", Expect.STATE, () -> x.begin(0));
            Expect.answer("state 12", 0, () -> x.state(12));
            edited(x, 12);
            mended(x, number);
            Expect.answer("begin, only the pending one edited", 12, () -> x.begin(0));
        }
    }

    /** undo: "the change that was done last has drifted and would be undone", and only then. */
    private static void driftHindersUndo() {
        for (int i = 1; i <= FULL; i++) {
            int number = i;
            Migrationledger x = Ledgers.withDone(FULL, FULL);
            edited(x, number);
            Expect.answer("undo, " + number + " drifted", number == FULL ? (Object) Expect.STATE : FULL,
                    () -> x.undo(0));
        }
        Migrationledger y = Ledgers.withDone(11, FULL);
        y.begin(0);
        edited(y, 11);
        Expect.answer("undo the running one, the last done one drifted", FULL, () -> y.undo(0));
        y.step(0, 40, 0);
        Expect.thrown("undo the drifted one", Expect.STATE, () -> y.undo(0));
        mended(y, 11);
        Expect.answer("undo it, mended", 11, () -> y.undo(0));
    }

    /** Adding 569 to column 0 and multiplying column 2 by -9 have one checksum, so this is no drift. */
    private static void driftWithOneChecksum() {
        Migrationledger x = Ledgers.withChanges(1);
        x.edit(1, 0, 0, 569);
        Ledgers.finish(x);
        Expect.answer("edit", 10991, () -> x.edit(1, 1, 2, -9));
        Expect.answer("drifted", 0, () -> x.drifted());
        x.edit(1, 1, 2, -8);
        Expect.answer("drifted by one factor more", 1, () -> x.drifted());
        x.edit(1, 0, 0, 570);
        Expect.answer("drifted by one more added", 1, () -> x.drifted());
    }
}
