/** Promises 2 to 8: the list of changes, their checksums and states, the level and the drift. */
public final class ChangesTest {
    public static void main(String[] args) {
        addsChanges();
        refusesChangesOutOfRange();
        refusesTheThirteenthChange();
        edits();
        refusesEdits();
        answersChecksums();
        followsStatesAndLevel();
        findsTheFirstDrift();
        comparesChecksumsOnly();
        Expect.end();
    }

    private static void addsChanges() {
        Migrationledger x = new Migrationledger();
        int[][] good = {
            {0, 0, -1000}, {0, 2, 1000}, {0, 1, 0}, {1, 0, -9}, {1, 1, 9}, {1, 2, 1}, {1, 0, -1},
            {2, 0, 1}, {2, 0, 2}, {2, 1, 0}, {2, 1, 2}, {2, 2, 0}};
        for (int i = 0; i < good.length; i++) {
            int[] c = good[i];
            Expect.answer("changes before " + i, i, () -> x.changes());
            Expect.answer("addChange " + i, i + 1, () -> x.addChange(c[0], c[1], c[2]));
            int number = i + 1;
            Expect.answer("state " + number, 0, () -> x.state(number));
        }
        Expect.answer("changes", 12, () -> x.changes());
    }

    private static final int[][] BAD = {
        {-1, 0, 1}, {3, 0, 1}, {0, -1, 1}, {0, 3, 1}, {1, -1, 1}, {1, 3, 1}, {2, -1, 0}, {2, 3, 0},
        {0, 0, -1001}, {0, 0, 1001}, {1, 0, 0}, {1, 0, -10}, {1, 0, 10},
        {2, 0, 0}, {2, 1, 1}, {2, 2, 2}, {2, 0, -1}, {2, 0, 3},
        {0, 0, Integer.MIN_VALUE}, {0, 0, Integer.MAX_VALUE}, {1, 0, Integer.MIN_VALUE},
        {2, 0, Integer.MAX_VALUE}, {Integer.MIN_VALUE, 0, 1}, {Integer.MAX_VALUE, 0, 1},
        {0, Integer.MIN_VALUE, 1}, {0, Integer.MAX_VALUE, 1}};

    private static void refusesChangesOutOfRange() {
        Migrationledger x = new Migrationledger();
        for (int[] c : BAD) {
            String call = "(" + c[0] + ", " + c[1] + ", " + c[2] + ")";
            Expect.thrown("addChange" + call, Expect.ARGUMENT, () -> x.addChange(c[0], c[1], c[2]));
        }
        Expect.answer("changes", 0, () -> x.changes());
    }

    private static void refusesTheThirteenthChange() {
        Migrationledger x = new Migrationledger();
        for (int i = 0; i < 12; i++) {
            x.addChange(0, 0, i);
        }
        Expect.thrown("13th addChange", Expect.STATE, () -> x.addChange(0, 0, 1));
        Expect.thrown("13th addChange, wrong", Expect.ARGUMENT, () -> x.addChange(0, 0, 1001));
        Expect.answer("changes", 12, () -> x.changes());
        Expect.answer("checksum 12", (11 + 1001) * 7 + 12, () -> x.checksum(12));
    }

    private static void edits() {
        Migrationledger x = new Migrationledger();
        x.addChange(0, 0, 5);
        x.addChange(0, 1, 5);
        Expect.answer("edit a pending one", sum(2, 2, 1, 2), () -> x.edit(2, 2, 1, 2));
        Expect.answer("its checksum", sum(2, 2, 1, 2), () -> x.checksum(2));
        Expect.answer("the other checksum", sum(1, 0, 0, 5), () -> x.checksum(1));
        Expect.answer("changes", 2, () -> x.changes());
        x.insert(7, 1, 2, 3);
        x.edit(1, 1, 2, -4);
        Expect.answer("the edited change works", -12, () -> x.valueAt(7, 2, 1));
        Expect.answer("both edited changes work", -12, () -> x.valueAt(7, 1, 2));
        finish(x, 1);
        Expect.answer("edit a done one", sum(1, 0, 0, 9), () -> x.edit(1, 0, 0, 9));
        Expect.answer("it stays done", 2, () -> x.state(1));
    }

    private static void refusesEdits() {
        Migrationledger x = new Migrationledger();
        x.addChange(0, 0, 5);
        x.addChange(0, 0, 6);
        for (int[] c : BAD) {
            String call = "(1, " + c[0] + ", " + c[1] + ", " + c[2] + ")";
            Expect.thrown("edit" + call, Expect.ARGUMENT, () -> x.edit(1, c[0], c[1], c[2]));
            Expect.thrown("edit no change" + call, Expect.ARGUMENT, () -> x.edit(9, c[0], c[1], c[2]));
        }
        int[] none = {0, -1, 3, 12, 13, Integer.MIN_VALUE, Integer.MAX_VALUE};
        for (int number : none) {
            Expect.thrown("edit " + number, Expect.INDEX, () -> x.edit(number, 0, 0, 1));
            Expect.thrown("checksum " + number, Expect.INDEX, () -> x.checksum(number));
            Expect.thrown("state " + number, Expect.INDEX, () -> x.state(number));
        }
        x.take(0, 100);
        x.begin(0);
        Expect.thrown("edit the running one", Expect.STATE, () -> x.edit(1, 0, 0, 1));
        Expect.thrown("edit the running one wrongly", Expect.ARGUMENT, () -> x.edit(1, 0, 0, 1001));
        Expect.thrown("edit none while one runs", Expect.INDEX, () -> x.edit(3, 0, 0, 1));
        Expect.answer("edit one behind it", sum(2, 0, 0, 1), () -> x.edit(2, 0, 0, 1));
        x.undo(0);
        Expect.thrown("edit the one being undone", Expect.STATE, () -> x.edit(1, 0, 0, 1));
        Expect.answer("its checksum is as it was", sum(1, 0, 0, 5), () -> x.checksum(1));
        x.step(0, 40, 0);
        Expect.answer("edit it when it is undone", sum(1, 0, 0, 1), () -> x.edit(1, 0, 0, 1));
    }

    private static void answersChecksums() {
        Migrationledger x = new Migrationledger();
        x.addChange(0, 0, -1000);
        x.addChange(1, 2, 9);
        x.addChange(2, 2, 1);
        Expect.answer("checksum 1", 8, () -> x.checksum(1));
        Expect.answer("checksum 2", ((33 * 2003 + 9 + 1001) * 7 + 2) % 65521, () -> x.checksum(2));
        Expect.answer("checksum 3", ((64 * 2003 + 1 + 1001) * 7 + 3) % 65521, () -> x.checksum(3));
    }

    private static void followsStatesAndLevel() {
        Migrationledger x = new Migrationledger();
        Expect.answer("level of a new object", 0, () -> x.level());
        Expect.answer("drifted of a new object", 0, () -> x.drifted());
        x.addChange(0, 0, 1);
        x.addChange(0, 0, 2);
        x.addChange(0, 0, 3);
        x.take(0, 100);
        states(x, "added", 0, 0, 0, 0);
        x.begin(0);
        states(x, "1 begun", 0, 1, 0, 0);
        x.step(0, 39, 0);
        states(x, "1 all but done", 0, 1, 0, 0);
        x.step(0, 1, 0);
        states(x, "1 done", 1, 2, 0, 0);
        finish(x, 0);
        states(x, "2 done", 2, 2, 2, 0);
        x.undo(0);
        states(x, "2 being undone", 1, 2, 3, 0);
        x.step(0, 39, 0);
        states(x, "2 all but undone", 1, 2, 3, 0);
        x.step(0, 1, 0);
        states(x, "2 undone", 1, 2, 0, 0);
        x.begin(0);
        x.undo(0);
        states(x, "2 undone while it ran", 1, 2, 3, 0);
        x.step(0, 40, 0);
        states(x, "2 pending again", 1, 2, 0, 0);
    }

    private static void states(Migrationledger x, String when, int level, int... due) {
        Expect.answer("level, " + when, level, () -> x.level());
        for (int i = 0; i < due.length; i++) {
            int number = i + 1;
            Expect.answer("state " + number + ", " + when, due[i], () -> x.state(number));
        }
    }

    private static void findsTheFirstDrift() {
        Migrationledger x = new Migrationledger();
        for (int i = 1; i <= 4; i++) {
            x.addChange(0, 0, i);
        }
        finish(x, 0);
        finish(x, 0);
        finish(x, 0);
        Expect.answer("drifted, none edited", 0, () -> x.drifted());
        x.edit(4, 0, 0, 100);
        Expect.answer("drifted, a pending one edited", 0, () -> x.drifted());
        x.edit(3, 0, 0, 100);
        Expect.answer("drifted, 3 edited", 3, () -> x.drifted());
        x.edit(1, 0, 0, 100);
        Expect.answer("drifted, 1 and 3 edited", 1, () -> x.drifted());
        x.edit(1, 0, 0, 1);
        Expect.answer("drifted, 1 as it was", 3, () -> x.drifted());
        Expect.answer("level", 3, () -> x.level());
        x.edit(3, 0, 0, 3);
        x.undo(0);
        x.edit(2, 0, 0, 100);
        Expect.answer("drifted, 2 edited while 3 is undone", 2, () -> x.drifted());
        x.step(0, 40, 0);
        x.edit(3, 0, 0, 7);
        x.edit(2, 0, 0, 2);
        Expect.answer("drifted, an undone one edited", 0, () -> x.drifted());
        finish(x, 0);
        Expect.answer("drifted, recorded anew", 0, () -> x.drifted());
        x.edit(3, 0, 0, 3);
        Expect.answer("drifted, back to what was recorded earlier", 3, () -> x.drifted());
    }

    /** Adding 580 to column 0 and doubling column 2 have one checksum: the document sees no drift there. */
    private static void comparesChecksumsOnly() {
        Migrationledger x = new Migrationledger();
        x.addChange(0, 0, 580);
        finish(x, 0);
        Expect.answer("edit to the same checksum", sum(1, 0, 0, 580), () -> x.edit(1, 1, 2, 2));
        Expect.answer("drifted", 0, () -> x.drifted());
        Expect.answer("undo", 1, () -> x.undo(0));
    }

    private static int sum(int number, int kind, int column, int operand) {
        return (((kind * 31 + column) * 2003 + operand + 1001) * 7 + number) % 65521;
    }

    private static void finish(Migrationledger x, int worker) {
        x.take(worker, 100);
        x.begin(worker);
        x.step(worker, 40, 0);
    }
}
