import java.util.ArrayList;
import java.util.List;

/**
 * "A call that throws an exception changes nothing": of two objects made by the same calls one gets a
 * call that is refused; all that can be asked, and all that is done afterwards, must answer alike on
 * both. The calls that only ask are held to the same.
 */
public final class EdgeRefusalTest {
    private static final int MOST = Ledgers.MOST;
    private static final int[] IDS = {-1, 0, 1, 5, 38, 39, 40};
    private static final int[] COLUMNS = {-1, 0, 2, 3};
    private static final int[] NUMBERS = {0, 1, 2, 3, 12, 13};
    private static final int[] OPERANDS = {-1001, -10, -1, 0, 1, 2, 10, 1001};

    private interface Start {
        Migrationledger make();
    }

    private interface Use {
        Object run(Migrationledger x);
    }

    private interface Later {
        String answers(Migrationledger x);
    }

    private static final class Named {
        final String name;
        final Use use;

        Named(String name, Use use) {
            this.name = name;
            this.use = use;
        }
    }

    private static final List<Named> changing = new ArrayList<>();
    private static final List<Named> asking = new ArrayList<>();
    private static int refused = 0;

    public static void main(String[] args) {
        listChangeCalls();
        listRowCalls();
        listLockCalls();
        listRunCalls();
        listAskingCalls();
        from("a new object", Migrationledger::new);
        from("rows and changes", EdgeRefusalTest::rowsAndChanges);
        from("the lock held", EdgeRefusalTest::lockHeld);
        from("a running change", EdgeRefusalTest::midway);
        from("a change being undone", EdgeRefusalTest::midwayBack);
        from("a crash while it ran", EdgeRefusalTest::crashedUp);
        from("a crash while it was undone", EdgeRefusalTest::crashedDown);
        from("a crash and a lease just over", EdgeRefusalTest::crashedAndOver);
        from("a blocked step", EdgeRefusalTest::blocked);
        from("a lease just over", EdgeRefusalTest::leaseOver);
        from("drift", EdgeRefusalTest::drifted);
        from("drift while a change runs", EdgeRefusalTest::driftedWhileRunning);
        from("a full list, all done", () -> Ledgers.withDone(12, 12));
        from("a full table", EdgeRefusalTest::fullTable);
        Expect.answer("more than 10000 calls were refused", true, () -> refused > 10000);
        Expect.end();
    }

    // ---- the calls

    private static void change(String name, Use use) {
        changing.add(new Named(name, use));
    }

    private static void ask(String name, Use use) {
        asking.add(new Named(name, use));
    }

    private static void listChangeCalls() {
        for (int kind = -1; kind <= 3; kind++) {
            for (int column : COLUMNS) {
                for (int operand : OPERANDS) {
                    int k = kind;
                    String content = k + ", " + column + ", " + operand;
                    change("addChange " + content, x -> x.addChange(k, column, operand));
                    change("edit 1 " + content, x -> x.edit(1, k, column, operand));
                    change("edit 2 " + content, x -> x.edit(2, k, column, operand));
                }
            }
        }
        for (int number : NUMBERS) {
            change("edit " + number, x -> x.edit(number, 0, 1, 77));
        }
    }

    private static void listRowCalls() {
        for (int id : IDS) {
            change("insert " + id, x -> x.insert(id, 11, 12, 13));
            change("insert too much " + id, x -> x.insert(id, MOST + 1, 12, 13));
            change("insert too little " + id, x -> x.insert(id, 11, -MOST - 1, 13));
            change("insert far too much " + id, x -> x.insert(id, 11, 12, Integer.MAX_VALUE));
            change("delete " + id, x -> x.delete(id));
            for (int column : COLUMNS) {
                change("write " + id + ", " + column, x -> x.write(id, column, 14));
                change("write too much " + id + ", " + column, x -> x.write(id, column, MOST + 1));
                change("write too little " + id + ", " + column, x -> x.write(id, column, -MOST - 1));
            }
        }
    }

    private static void listLockCalls() {
        int[] leases = {0, 1, 5, 100, 101};
        for (int worker = -1; worker <= 4; worker++) {
            int w = worker;
            for (int lease : leases) {
                change("take " + w + ", " + lease, x -> x.take(w, lease));
            }
            change("giveBack " + w, x -> Ledgers.giveBack(x, w));
            change("restart " + w, x -> x.restart(w));
        }
        int[] ticks = {-1, 0, 1001, Integer.MIN_VALUE, Integer.MAX_VALUE};
        for (int t : ticks) {
            change("pass " + t, x -> x.pass(t));
        }
    }

    private static void listRunCalls() {
        int[] batches = {0, 1, 7, 40, 41};
        int[] crashes = {-1, 0, 1, 40, 41};
        for (int worker = -1; worker <= 4; worker++) {
            int w = worker;
            change("begin " + w, x -> x.begin(w));
            change("undo " + w, x -> x.undo(w));
            for (int batch : batches) {
                for (int crash : crashes) {
                    change("step " + w + ", " + batch + ", " + crash, x -> x.step(w, batch, crash));
                }
            }
        }
    }

    private static void listAskingCalls() {
        ask("changes", x -> x.changes());
        ask("level", x -> x.level());
        ask("drifted", x -> x.drifted());
        ask("holder", x -> x.holder());
        ask("cursor", x -> x.cursor());
        ask("share", x -> x.share());
        for (int number : NUMBERS) {
            ask("checksum " + number, x -> x.checksum(number));
            ask("state " + number, x -> x.state(number));
            ask("rowsAt " + number, x -> x.rowsAt(number));
        }
        for (int id : IDS) {
            ask("version " + id, x -> x.version(id));
            for (int column : COLUMNS) {
                ask("value " + id + ", " + column, x -> x.value(id, column));
                for (int version = -1; version <= 13; version++) {
                    int v = version;
                    ask("valueAt " + id + ", " + column + ", " + v, x -> x.valueAt(id, column, v));
                }
            }
        }
    }

    // ---- the states in which they are made

    private static Migrationledger rowsAndChanges() {
        Migrationledger x = new Migrationledger();
        x.addChange(0, 0, 1000);
        x.addChange(1, 1, -9);
        x.addChange(2, 0, 2);
        x.insert(0, 1, 2, 3);
        x.insert(1, MOST, MOST, MOST);
        x.insert(5, 0, MOST, 7);
        x.insert(20, -8, -9, -10);
        x.insert(39, 4, 5, 6);
        return x;
    }

    private static Migrationledger lockHeld() {
        Migrationledger x = rowsAndChanges();
        x.pass(3);
        x.take(2, 50);
        return x;
    }

    /** Change 1 is done, change 2 has the cursor 10; the rows 1 and 5 are such that no step is blocked. */
    private static Migrationledger midway() {
        Migrationledger x = lockHeld();
        x.write(1, 0, 0);
        x.write(1, 1, 7);
        x.write(5, 1, 0);
        x.begin(2);
        x.step(2, 40, 0);
        x.begin(2);
        x.step(2, 10, 0);
        return x;
    }

    private static Migrationledger midwayBack() {
        Migrationledger x = midway();
        x.step(2, 40, 0);
        x.undo(2);
        x.step(2, 10, 0);
        return x;
    }

    private static Migrationledger crashedUp() {
        Migrationledger x = midway();
        x.step(2, 40, 1);
        return x;
    }

    private static Migrationledger crashedDown() {
        Migrationledger x = midwayBack();
        x.step(2, 40, 2);
        return x;
    }

    private static Migrationledger crashedAndOver() {
        Migrationledger x = crashedUp();
        x.pass(50);
        return x;
    }

    private static Migrationledger blocked() {
        Migrationledger x = lockHeld();
        x.begin(2);
        x.step(2, 40, 0);
        return x;
    }

    private static Migrationledger leaseOver() {
        Migrationledger x = midway();
        x.pass(50);
        return x;
    }

    private static Migrationledger drifted() {
        Migrationledger x = midway();
        x.step(2, 40, 0);
        x.edit(2, 1, 1, 3);
        x.edit(1, 0, 1, 3);
        return x;
    }

    private static Migrationledger driftedWhileRunning() {
        Migrationledger x = midway();
        x.edit(1, 0, 1, 3);
        return x;
    }

    private static Migrationledger fullTable() {
        Migrationledger x = Ledgers.withChanges(2);
        Ledgers.fill(x);
        x.take(1, 20);
        x.begin(1);
        x.step(1, 20, 20);
        return x;
    }

    // ---- the comparison

    private static void from(String state, Start start) {
        from(state + ", then work", start, EdgeRefusalTest::lookAndWork);
        from(state + ", then time", start, EdgeRefusalTest::letTimePass);
    }

    private static void from(String state, Start start, Later later) {
        String due = later.answers(start.make());
        for (Named call : changing) {
            Migrationledger x = start.make();
            if (Expect.isThrown(Expect.answerOf(() -> call.use.run(x)))) {
                refused++;
                compare(state, call, due, later, x);
            }
        }
        for (Named call : asking) {
            Migrationledger x = start.make();
            Expect.answerOf(() -> call.use.run(x));
            compare(state, call, due, later, x);
        }
    }

    private static void compare(String state, Named call, String due, Later later, Migrationledger x) {
        Expect.answer(state + ", behind " + call.name, "alike", () -> difference(due, later.answers(x)));
    }

    private static String difference(String due, String got) {
        String[] dueLines = due.split("\n");
        String[] gotLines = got.split("\n");
        for (int i = 0; i < Math.min(dueLines.length, gotLines.length); i++) {
            if (!dueLines[i].equals(gotLines[i])) {
                return "line " + i + ": " + gotLines[i] + " and not " + dueLines[i];
            }
        }
        return dueLines.length == gotLines.length ? "alike" : gotLines.length + " lines";
    }

    /** A look at the object, every way to go on at once, and a look behind them. */
    private static String lookAndWork(Migrationledger x) {
        StringBuilder text = new StringBuilder();
        lookAtChanges(text, x);
        lookAtRows(text, x);
        note(text, "holder", () -> x.holder());
        note(text, "cursor", () -> x.cursor());
        note(text, "share", () -> x.share());
        note(text, "step", () -> x.step(Math.max(0, x.holder()), 3, 0));
        note(text, "cursor", () -> x.cursor());
        for (int worker = 0; worker <= 3; worker++) {
            int w = worker;
            note(text, "restart", () -> x.restart(w));
            note(text, "take", () -> x.take(w, 7));
        }
        int w = x.holder();
        note(text, "step", () -> x.step(w, 6, 0));
        note(text, "cursor", () -> x.cursor());
        note(text, "begin", () -> x.begin(w));
        note(text, "undo", () -> x.undo(w));
        note(text, "step", () -> x.step(w, 40, 0));
        note(text, "added", () -> x.addChange(0, 2, 1));
        note(text, "pass", () -> x.pass(6));
        note(text, "holder", () -> x.holder());
        note(text, "pass", () -> x.pass(1));
        note(text, "holder", () -> x.holder());
        lookAtChanges(text, x);
        lookAtRows(text, x);
        return text.toString();
    }

    /** The holder at each tick until every lease is over, and what the workers can do then. */
    private static String letTimePass(Migrationledger x) {
        StringBuilder text = new StringBuilder();
        for (int tick = 0; tick <= 101; tick++) {
            note(text, "holder", () -> x.holder());
            note(text, "pass", () -> x.pass(1));
        }
        for (int worker = 0; worker <= 3; worker++) {
            int w = worker;
            note(text, "take", () -> x.take(w, 1));
            note(text, "step", () -> x.step(w, 1, 0));
            note(text, "giveBack", () -> Ledgers.giveBack(x, w));
            note(text, "restart", () -> x.restart(w));
        }
        return text.toString();
    }

    private static void lookAtChanges(StringBuilder text, Migrationledger x) {
        note(text, "changes", () -> x.changes());
        note(text, "level", () -> x.level());
        note(text, "drifted", () -> x.drifted());
        for (int number = 1; number <= x.changes(); number++) {
            int n = number;
            note(text, "checksum", () -> x.checksum(n));
            note(text, "state", () -> x.state(n));
        }
    }

    private static void lookAtRows(StringBuilder text, Migrationledger x) {
        for (int id = 0; id < Ledgers.ROWS; id++) {
            int i = id;
            note(text, "version", () -> x.version(i));
            for (int column = 0; column < 3; column++) {
                int c = column;
                note(text, "value", () -> x.value(i, c));
            }
        }
    }

    private static void note(StringBuilder text, String call, Expect.Call made) {
        text.append(call).append(' ').append(Expect.answerOf(made)).append('\n');
    }
}
