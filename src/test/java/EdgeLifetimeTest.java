/**
 * "An object is used for at most 512 calls after it has been made": up to the 512th call of one object
 * every answer is the due one, whatever the calls before it were. What a 513th answers is free, so no
 * test asks for one.
 */
public final class EdgeLifetimeTest {
    private static final int LAST = 512;
    private static final int MOST = Ledgers.MOST;

    private interface Use {
        Object run(Migrationledger x, int round);
    }

    public static void main(String[] args) {
        timeOf512Calls();
        leaseOfThe512thCall();
        sameQuestion512Times();
        refused511Times();
        rowsThatComeAndGo();
        writesAndEdits();
        locksTakenAndGivenBack();
        crashesAndRestarts();
        changesAppliedAndUndone();
        twelveChangesUpAndDown();
        Expect.end();
    }

    /** The longest time that can be: 512 calls of 1000 ticks. */
    private static void timeOf512Calls() {
        Migrationledger x = new Migrationledger();
        for (int call = 1; call <= LAST; call++) {
            Expect.answer("pass, call " + call, call * 1000, () -> x.pass(1000));
        }
    }

    private static void leaseOfThe512thCall() {
        Migrationledger x = new Migrationledger();
        for (int call = 1; call < LAST; call++) {
            x.pass(1000);
        }
        Expect.answer("take", 511 * 1000 + 100, () -> x.take(3, 100));
        Migrationledger y = new Migrationledger();
        y.take(2, 100);
        for (int call = 2; call <= 100; call++) {
            y.pass(1);
        }
        for (int call = 101; call <= 510; call++) {
            Expect.answer("holder, call " + call, 2, () -> y.holder());
        }
        y.pass(1);
        Expect.answer("holder, call 512", -1, () -> y.holder());
    }

    /** Asking changes nothing, however often. */
    private static void sameQuestion512Times() {
        same("changes", 0, (x, i) -> x.changes());
        same("level", 0, (x, i) -> x.level());
        same("drifted", 0, (x, i) -> x.drifted());
        same("holder", -1, (x, i) -> x.holder());
        same("version", -1, (x, i) -> x.version(39));
        same("rowsAt", 0, (x, i) -> x.rowsAt(12));
        same("state of none", Expect.INDEX, (x, i) -> x.state(1));
        same("checksum of none", Expect.INDEX, (x, i) -> x.checksum(1));
        same("value of none", Expect.INDEX, (x, i) -> x.value(0, 0));
        same("valueAt of none", Expect.INDEX, (x, i) -> x.valueAt(0, 0, 0));
        same("cursor of none", Expect.STATE, (x, i) -> x.cursor());
        same("share of none", Expect.STATE, (x, i) -> x.share());
        same("delete of none", Expect.INDEX, (x, i) -> x.delete(0));
        same("take with a bad lease", Expect.ARGUMENT, (x, i) -> x.take(0, 101));
        same("take anew", 100, (x, i) -> x.take(3, 100));
        Migrationledger x = Ledgers.running(1, false);
        x.insert(0, 1, 2, 3);
        x.insert(1, 1, 2, 3);
        for (int call = 7; call < LAST; call += 2) {
            Expect.answer("share, call " + call, 0.5f, () -> x.share());
            Expect.answer("valueAt, call " + (call + 1), 2, () -> x.valueAt(1, 0, 1));
        }
    }

    private static void same(String call, Object due, Use use) {
        Migrationledger x = new Migrationledger();
        for (int i = 1; i <= LAST; i++) {
            int round = i;
            Expect.answer(call + ", call " + round, due, () -> use.run(x, round));
        }
    }

    /** 511 calls that are refused leave a new object new. */
    private static void refused511Times() {
        Expect.answer("addChange", 1, () -> refused().addChange(0, 0, 1));
        Expect.answer("insert", 0, () -> refused().insert(0, 1, 2, 3));
        Expect.answer("take", 1, () -> refused().take(0, 1));
        Expect.answer("pass", 1, () -> refused().pass(1));
        Expect.answer("changes", 0, () -> refused().changes());
        Expect.answer("rowsAt 0", 0, () -> refused().rowsAt(0));
        Expect.answer("holder", -1, () -> refused().holder());
    }

    private static Migrationledger refused() {
        Migrationledger x = new Migrationledger();
        for (int call = 1; call < LAST; call += 7) {
            Expect.thrown("addChange", Expect.ARGUMENT, () -> x.addChange(0, 0, 1001));
            Expect.thrown("insert", Expect.ARGUMENT, () -> x.insert(0, 0, 0, MOST + 1));
            Expect.thrown("write", Expect.INDEX, () -> x.write(0, 0, 1));
            Expect.thrown("take", Expect.ARGUMENT, () -> x.take(0, 101));
            Expect.thrown("begin", Expect.STATE, () -> x.begin(0));
            Expect.thrown("restart", Expect.STATE, () -> x.restart(0));
            Expect.thrown("pass", Expect.ARGUMENT, () -> x.pass(1001));
        }
        return x;
    }

    private static void rowsThatComeAndGo() {
        Migrationledger x = new Migrationledger();
        for (int round = 0; round < LAST / 4; round++) {
            int id = round % Ledgers.ROWS;
            int value = round;
            Expect.answer("insert", 0, () -> x.insert(id, value, -value, MOST - value));
            Expect.answer("value", MOST - value, () -> x.value(id, 2));
            Expect.answer("delete", 0, () -> x.delete(id));
            Expect.answer("version", -1, () -> x.version(id));
        }
    }

    private static void writesAndEdits() {
        Migrationledger x = Ledgers.withChanges(1);
        x.insert(39, 0, 0, 0);
        for (int round = 1; round <= (LAST - 2) / 3; round++) {
            int value = round;
            Expect.answer("write", value - 1, () -> x.write(39, 0, value));
            Expect.answer("edit", (value + 1001) * 7 + 1, () -> x.edit(1, 0, 0, value));
            Expect.answer("valueAt", value * 2, () -> x.valueAt(39, 0, 1));
        }
    }

    private static void locksTakenAndGivenBack() {
        Migrationledger x = new Migrationledger();
        for (int round = 0; round < LAST / 4; round++) {
            int worker = round % 4;
            int time = round;
            Expect.answer("take", time + 100, () -> x.take(worker, 100));
            Expect.answer("giveBack", "given back", () -> Ledgers.giveBack(x, worker));
            Expect.answer("holder", -1, () -> x.holder());
            Expect.answer("pass", time + 1, () -> x.pass(1));
        }
    }

    /** One row is taken out and put in again ahead of each crash, so that it is to be changed each time. */
    private static void crashesAndRestarts() {
        Migrationledger x = Ledgers.withChanges(1);
        x.take(1, 100);
        x.begin(1);
        for (int round = 0; round < (LAST - 3) / 5; round++) {
            int value = round;
            Expect.answer("insert", 0, () -> x.insert(39, value, 0, 0));
            Expect.answer("crash", 1, () -> x.step(1, 40, 1));
            Expect.answer("restart", true, () -> x.restart(1));
            Expect.answer("value", value + 1, () -> x.value(39, 0));
            Expect.answer("delete", 1, () -> x.delete(39));
        }
        Expect.answer("cursor", 0, () -> x.cursor());
    }

    private static void changesAppliedAndUndone() {
        Migrationledger x = new Migrationledger();
        x.addChange(1, 2, -9);
        x.insert(20, 0, 0, 111111111);
        x.take(0, 100);
        for (int round = 0; round < (LAST - 3) / 6; round++) {
            Expect.answer("begin", 1, () -> x.begin(0));
            Expect.answer("step", 1, () -> x.step(0, 40, 0));
            Expect.answer("value", -999999999, () -> x.value(20, 2));
            Expect.answer("undo", 1, () -> x.undo(0));
            Expect.answer("step back", 1, () -> x.step(0, 40, 0));
            Expect.answer("value back", 111111111, () -> x.value(20, 2));
        }
    }

    /** All twelve changes nine times up and down again, with rows at both ends. */
    private static void twelveChangesUpAndDown() {
        Migrationledger x = Ledgers.withChanges(12);
        x.insert(0, 0, 0, 0);
        x.insert(39, 1, 0, 0);
        x.take(0, 100);
        for (int round = 0; round < 9; round++) {
            for (int i = 1; i <= 12; i++) {
                int number = i;
                Expect.answer("begin " + number, number, () -> x.begin(0));
                Expect.answer("step " + number, 2, () -> x.step(0, 40, 0));
            }
            Expect.answer("value", 79, () -> x.value(39, 0));
            for (int i = 12; i >= 1; i--) {
                int number = i;
                Expect.answer("undo " + number, number, () -> x.undo(0));
                Expect.answer("step back " + number, 2, () -> x.step(0, 40, 0));
            }
            Expect.answer("value", 0, () -> x.value(0, 0));
        }
    }
}
