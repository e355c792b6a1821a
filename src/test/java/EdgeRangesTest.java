/**
 * The range of each argument of each method: every value in it is taken (of the table's values, those
 * near the ends and near 0), and the first ones that aren't, on each side, are refused as the document
 * says, and so are those far away.
 */
public final class EdgeRangesTest {
    private static final int MOST = Ledgers.MOST;

    private interface Start {
        Migrationledger make();
    }

    private interface Use {
        Object run(Migrationledger x, int argument);
    }

    public static void main(String[] args) {
        kindsAndColumnsOfChanges();
        operands();
        numbersOfChanges();
        idsOfRows();
        columnsOfRows();
        valuesOfRows();
        versions();
        workers();
        leasesAndTicks();
        batchesAndCrashes();
        Expect.end();
    }

    /** Each value is tried on an object of its own, on which the call is possible. */
    private static void range(String call, int low, int high, Class<?> refused, Start start, Use use) {
        for (int argument : taken(low, high)) {
            Migrationledger x = start.make();
            Expect.possible(call + " with " + argument, () -> use.run(x, argument));
        }
        int[] beyond = {low - 1, low - 2, high + 1, high + 2, Integer.MIN_VALUE, Integer.MAX_VALUE};
        for (int argument : beyond) {
            boolean inside = argument >= low && argument <= high;
            if (!inside) {
                Migrationledger x = start.make();
                Expect.thrown(call + " with " + argument, refused, () -> use.run(x, argument));
            }
        }
    }

    private static int[] taken(int low, int high) {
        if (high - low > 3000) {
            return new int[] {low, low + 1, -1, 0, 1, high - 1, high};
        }
        int[] all = new int[high - low + 1];
        for (int i = 0; i < all.length; i++) {
            all[i] = low + i;
        }
        return all;
    }

    private static void argument(String call, int low, int high, Start start, Use use) {
        range(call, low, high, Expect.ARGUMENT, start, use);
    }

    private static Migrationledger one() {
        return Ledgers.withChanges(1);
    }

    private static Migrationledger eleven() {
        return Ledgers.withChanges(11);
    }

    private static void kindsAndColumnsOfChanges() {
        argument("addChange, kind", 0, 2, EdgeRangesTest::eleven, (x, a) -> x.addChange(a, 0, 1));
        argument("edit, kind", 0, 2, EdgeRangesTest::one, (x, a) -> x.edit(1, a, 0, 1));
        for (int kind = 0; kind <= 1; kind++) {
            int k = kind;
            argument("addChange, column, kind " + k, 0, 2, EdgeRangesTest::eleven,
                    (x, a) -> x.addChange(k, a, 1));
            argument("edit, column, kind " + k, 0, 2, EdgeRangesTest::one, (x, a) -> x.edit(1, k, a, 1));
        }
        argument("addChange, column, kind 2", 0, 2, EdgeRangesTest::eleven,
                (x, a) -> x.addChange(2, a, a == 1 ? 2 : 1));
        argument("edit, column, kind 2", 0, 2, EdgeRangesTest::one,
                (x, a) -> x.edit(1, 2, a, a == 1 ? 2 : 1));
    }

    private static void operands() {
        for (int kind = 0; kind < 3; kind++) {
            for (int column = 0; column < 3; column++) {
                for (int operand = -1100; operand <= 1100; operand++) {
                    operand(kind, column, operand);
                }
                operand(kind, column, Integer.MIN_VALUE);
                operand(kind, column, Integer.MAX_VALUE);
            }
        }
    }

    private static void operand(int kind, int column, int operand) {
        String content = "(" + kind + ", " + column + ", " + operand + ")";
        boolean taken = isOperand(kind, column, operand);
        int sum = (((kind * 31 + column) * 2003 + operand + 1001) * 7 + 1) % 65521;
        Migrationledger x = one();
        Expect.answer("edit 1 to " + content, taken ? (Object) sum : Expect.ARGUMENT,
                () -> x.edit(1, kind, column, operand));
        Expect.answer("addChange" + content, taken ? (Object) 2 : Expect.ARGUMENT,
                () -> x.addChange(kind, column, operand));
        Expect.answer("changes then", taken ? 2 : 1, () -> x.changes());
    }

    private static boolean isOperand(int kind, int column, int operand) {
        if (kind == 2) {
            return operand != column && (operand == 0 || operand == 1 || operand == 2);
        }
        int most = kind == 0 ? 1000 : 9;
        boolean missing = kind == 1 && operand == 0;
        return operand >= -most && operand <= most && !missing;
    }

    private static void numbersOfChanges() {
        for (int count = 0; count <= Ledgers.MOST_CHANGES; count++) {
            int n = count;
            String of = " of " + n;
            range("edit" + of, 1, n, Expect.INDEX, () -> Ledgers.withChanges(n), (x, a) -> x.edit(a, 0, 0, 7));
            range("checksum" + of, 1, n, Expect.INDEX, () -> Ledgers.withChanges(n), (x, a) -> x.checksum(a));
            range("state" + of, 1, n, Expect.INDEX, () -> Ledgers.withChanges(n), (x, a) -> x.state(a));
        }
    }

    private static Migrationledger filled() {
        Migrationledger x = Ledgers.withChanges(1);
        Ledgers.fill(x);
        return x;
    }

    private static void idsOfRows() {
        argument("insert, id", 0, 39, EdgeRangesTest::one, (x, a) -> x.insert(a, 0, 0, 0));
        argument("write, id", 0, 39, EdgeRangesTest::filled, (x, a) -> x.write(a, 0, 0));
        argument("delete, id", 0, 39, EdgeRangesTest::filled, (x, a) -> x.delete(a));
        argument("value, id", 0, 39, EdgeRangesTest::filled, (x, a) -> x.value(a, 0));
        argument("version, id", 0, 39, EdgeRangesTest::filled, (x, a) -> x.version(a));
        argument("version, id of an absent row", 0, 39, EdgeRangesTest::one, (x, a) -> x.version(a));
        argument("valueAt, id", 0, 39, EdgeRangesTest::filled, (x, a) -> x.valueAt(a, 0, 1));
    }

    private static void columnsOfRows() {
        for (int id = 0; id < Ledgers.ROWS; id++) {
            int i = id;
            argument("write, column, row " + i, 0, 2, EdgeRangesTest::filled, (x, a) -> x.write(i, a, 0));
            argument("value, column, row " + i, 0, 2, EdgeRangesTest::filled, (x, a) -> x.value(i, a));
            argument("valueAt, column, row " + i, 0, 2, EdgeRangesTest::filled, (x, a) -> x.valueAt(i, a, 0));
        }
    }

    private static void valuesOfRows() {
        argument("insert, first", -MOST, MOST, EdgeRangesTest::one, (x, a) -> x.insert(0, a, 0, 0));
        argument("insert, second", -MOST, MOST, EdgeRangesTest::one, (x, a) -> x.insert(0, 0, a, 0));
        argument("insert, third", -MOST, MOST, EdgeRangesTest::one, (x, a) -> x.insert(39, 0, 0, a));
        for (int column = 0; column < 3; column++) {
            int c = column;
            argument("write, value, column " + c, -MOST, MOST, EdgeRangesTest::filled,
                    (x, a) -> x.write(39, c, a));
        }
    }

    private static void versions() {
        argument("rowsAt of an empty table", 0, 12, Migrationledger::new, (x, a) -> x.rowsAt(a));
        argument("rowsAt of a full table", 0, 12, EdgeRangesTest::filled, (x, a) -> x.rowsAt(a));
        for (int count = 0; count <= Ledgers.MOST_CHANGES; count++) {
            int n = count;
            argument("valueAt, version with " + n + " changes", 0, n, () -> {
                Migrationledger x = Ledgers.withChanges(n);
                x.insert(5, 1, 2, 3);
                return x;
            }, (x, a) -> x.valueAt(5, 0, a));
        }
    }

    private static void workers() {
        argument("take, worker", 0, 3, EdgeRangesTest::one, (x, a) -> x.take(a, 10));
        for (int worker = 0; worker <= 3; worker++) {
            int w = worker;
            oneWorker("giveBack", w, () -> held(w), (x, a) -> Ledgers.giveBack(x, a));
            oneWorker("restart", w, () -> crashedBy(w), (x, a) -> x.restart(a));
            oneWorker("begin", w, () -> held(w), (x, a) -> x.begin(a));
            oneWorker("undo", w, () -> begunBy(w), (x, a) -> x.undo(a));
            oneWorker("step", w, () -> begunBy(w), (x, a) -> x.step(a, 1, 0));
        }
    }

    /** The worker w can do it, the other ones can't do it now, and there are no more workers than 0 to 3. */
    private static void oneWorker(String call, int w, Start start, Use use) {
        int[] numbers = {-2, -1, 0, 1, 2, 3, 4, 5, Integer.MIN_VALUE, Integer.MAX_VALUE};
        for (int worker : numbers) {
            Migrationledger x = start.make();
            String what = call + " by " + worker + ", possible for " + w;
            if (worker == w) {
                Expect.possible(what, () -> use.run(x, worker));
            } else {
                boolean exists = worker >= 0 && worker <= 3;
                Expect.thrown(what, exists ? Expect.STATE : Expect.ARGUMENT, () -> use.run(x, worker));
            }
        }
    }

    private static Migrationledger held(int worker) {
        Migrationledger x = Ledgers.withChanges(1);
        x.insert(0, 0, 0, 0);
        x.take(worker, 100);
        return x;
    }

    private static Migrationledger begunBy(int worker) {
        Migrationledger x = held(worker);
        x.begin(worker);
        return x;
    }

    private static Migrationledger crashedBy(int worker) {
        Migrationledger x = begunBy(worker);
        x.step(worker, 1, 1);
        return x;
    }

    private static void leasesAndTicks() {
        argument("take, lease", 1, 100, EdgeRangesTest::one, (x, a) -> x.take(0, a));
        argument("take anew, lease", 1, 100, () -> held(3), (x, a) -> x.take(3, a));
        argument("pass, ticks", 1, 1000, EdgeRangesTest::one, (x, a) -> x.pass(a));
        argument("pass, ticks, with the lock held", 1, 1000, () -> held(3), (x, a) -> x.pass(a));
    }

    private static void batchesAndCrashes() {
        argument("step, batch", 1, 40, () -> Ledgers.running(0, true), (x, a) -> x.step(0, a, 0));
        argument("step, batch, no row", 1, 40, () -> Ledgers.running(39, false), (x, a) -> x.step(0, a, 0));
        argument("step, batch, undone", 1, 40, () -> Ledgers.beingUndone(40, true), (x, a) -> x.step(0, a, 0));
        argument("step, crashes", 0, 40, () -> Ledgers.running(0, true), (x, a) -> x.step(0, 40, a));
        argument("step, crashes, no row", 0, 40, () -> Ledgers.running(39, false), (x, a) -> x.step(0, 1, a));
        argument("step, crashes, undone", 0, 40, () -> Ledgers.beingUndone(40, true),
                (x, a) -> x.step(0, 40, a));
    }
}
