import java.math.BigInteger;
import java.util.ArrayList;
import java.util.List;
import java.util.Map;
import java.util.TreeMap;

/**
 * Long runs of calls, each answer compared with a second program that is written in another way;
 * a run ends with a look at all that can be asked. Also shows that nothing but a document's
 * exception ever comes out, and that a call that throws changes nothing.
 */
public final class ModelTest {
    private static final int RUNS = 4000;
    private static final int MOST_CALLS = 290;
    private static final int MOST = 1000000000;
    private static final int[] EXTREMES = {Integer.MIN_VALUE, Integer.MAX_VALUE, -1, 0, 1, 1 << 30};

    private static long seed;

    public static void main(String[] args) {
        for (int run = 1; run <= RUNS; run++) {
            seed = run * 7919L;
            oneRun(run);
        }
        Expect.end();
    }

    private static void oneRun(int run) {
        Migrationledger x = new Migrationledger();
        Model m = new Model();
        int wildness = run % 4 == 0 ? 5 : 40;
        int calls = 20 + below(MOST_CALLS - 20);
        for (int i = 0; i < calls; i++) {
            oneCall(run + "." + i, x, m, wildness);
        }
        askAll(run + ".end", x, m);
    }

    private static int below(int bound) {
        seed = seed * 6364136223846793005L + 1442695040888963407L;
        return (int) ((seed >>> 33) % bound);
    }

    private static int from(int low, int high) {
        return low + below(high - low + 1);
    }

    /** A number in the range, or now and then one at its edge, just beyond it or far away. */
    private static int about(int low, int high, int wildness) {
        int luck = below(wildness);
        if (luck == 0) {
            return below(2) == 0 ? low - 1 : high + 1;
        }
        if (luck == 1) {
            return EXTREMES[below(EXTREMES.length)];
        }
        if (luck == 2) {
            return below(2) == 0 ? low : high;
        }
        return from(low, high);
    }

    private static int tableValue(int wildness) {
        int way = below(6);
        if (way == 0) {
            return about(-MOST, MOST, wildness);
        }
        if (way == 1) {
            return below(2) == 0 ? MOST - below(3000) : below(3000) - MOST;
        }
        return from(-50, 50) * 72;
    }

    private static int operandFor(int kind, int wildness) {
        switch (kind) {
            case 0:
                return about(-1000, 1000, wildness);
            case 1:
                return about(-9, 9, wildness);
            default:
                return about(0, 2, wildness);
        }
    }

    private static void oneCall(String at, Migrationledger x, Model m, int w) {
        int way = below(100);
        if (way < 16) {
            rowCall(at, x, m, w);
        } else if (way < 30) {
            changeCall(at, x, m, w);
        } else if (way < 55) {
            lockCall(at, x, m, w);
        } else if (way < 90) {
            runCall(at, x, m, w);
        } else {
            lookCall(at, x, m, w);
        }
    }

    private static void rowCall(String at, Migrationledger x, Model m, int w) {
        int id = about(0, 39, w);
        int column = about(0, 2, w);
        int a = tableValue(w);
        int b = tableValue(w);
        int c = tableValue(w);
        int way = below(10);
        if (way < 5) {
            same(at, "insert", () -> x.insert(id, a, b, c), () -> m.insert(id, a, b, c));
        } else if (way < 8) {
            same(at, "write", () -> x.write(id, column, a), () -> m.write(id, column, a));
        } else {
            same(at, "delete", () -> x.delete(id), () -> m.delete(id));
        }
    }

    private static void changeCall(String at, Migrationledger x, Model m, int w) {
        int number = about(1, 12, w);
        int kind = about(0, 2, w);
        int column = about(0, 2, w);
        int operand = operandFor(kind, w);
        if (below(6) == 0) {
            same(at, "edit", () -> x.edit(number, kind, column, operand),
                    () -> m.edit(number, kind, column, operand));
        } else if (below(4) == 0 && m.mendable() != 0) {
            int[] was = m.recordedContent(m.mendable());
            int mended = m.mendable();
            same(at, "edit back", () -> x.edit(mended, was[0], was[1], was[2]),
                    () -> m.edit(mended, was[0], was[1], was[2]));
        } else {
            same(at, "addChange", () -> x.addChange(kind, column, operand),
                    () -> m.addChange(kind, column, operand));
        }
    }

    private static void lockCall(String at, Migrationledger x, Model m, int w) {
        int worker = about(0, 3, w);
        int lease = about(1, 100, w);
        int way = below(20);
        if (way < 9) {
            same(at, "take", () -> x.take(worker, lease), () -> m.take(worker, lease));
        } else if (way < 10) {
            same(at, "giveBack", () -> nothing(() -> x.giveBack(worker)), () -> m.giveBack(worker));
        } else if (way < 16) {
            same(at, "restart", () -> x.restart(worker), () -> m.restart(worker));
        } else {
            int ticks = below(3) == 0 ? about(1, 1000, w) : from(1, 30);
            same(at, "pass", () -> x.pass(ticks), () -> m.pass(ticks));
        }
    }

    private static void runCall(String at, Migrationledger x, Model m, int w) {
        int worker = m.holder() >= 0 && below(12) != 0 ? m.holder() : about(0, 3, w);
        int batch = about(1, 40, w);
        int crashes = below(3) == 0 ? about(0, 40, w) : below(2) * below(5);
        int way = below(20);
        if (way < 5) {
            same(at, "begin", () -> x.begin(worker), () -> m.begin(worker));
        } else if (way < 7) {
            same(at, "undo", () -> x.undo(worker), () -> m.undo(worker));
        } else {
            same(at, "step", () -> x.step(worker, batch, crashes), () -> m.step(worker, batch, crashes));
        }
    }

    private static void lookCall(String at, Migrationledger x, Model m, int w) {
        int id = about(0, 39, w);
        int column = about(0, 2, w);
        int version = about(0, Math.max(1, m.changes()), w);
        int number = about(1, 12, w);
        switch (below(6)) {
            case 0:
                same(at, "value", () -> x.value(id, column), () -> m.value(id, column));
                break;
            case 1:
                same(at, "rowsAt", () -> x.rowsAt(version), () -> m.rowsAt(version));
                break;
            case 2:
                same(at, "checksum", () -> x.checksum(number), () -> m.checksum(number));
                break;
            case 3:
                same(at, "share", () -> x.share(), () -> m.share());
                break;
            default:
                same(at, "valueAt", () -> x.valueAt(id, column, version),
                        () -> m.valueAt(id, column, version));
                break;
        }
    }

    private static void askAll(String at, Migrationledger x, Model m) {
        for (int i = 0; i < 40; i++) {
            int id = i;
            same(at, "version " + id, () -> x.version(id), () -> m.version(id));
            for (int c = 0; c < 3; c++) {
                int column = c;
                same(at, "value " + id + " " + column, () -> x.value(id, column), () -> m.value(id, column));
            }
        }
        for (int i = 1; i <= m.changes(); i++) {
            int number = i;
            same(at, "checksum " + number, () -> x.checksum(number), () -> m.checksum(number));
            same(at, "state " + number, () -> x.state(number), () -> m.state(number));
        }
        same(at, "changes", () -> x.changes(), () -> m.changes());
        same(at, "level", () -> x.level(), () -> m.level());
        same(at, "drifted", () -> x.drifted(), () -> m.drifted());
        same(at, "holder", () -> x.holder(), () -> m.holder());
        same(at, "cursor", () -> x.cursor(), () -> m.cursor());
        same(at, "share", () -> x.share(), () -> m.share());
        same(at, "pass", () -> x.pass(1), () -> m.pass(1));
        same(at, "holder then", () -> x.holder(), () -> m.holder());
    }

    private static Object nothing(Runnable call) {
        call.run();
        return "nothing";
    }

    private static void same(String at, String call, Expect.Call program, Expect.Call model) {
        Expect.answer("run " + at + ": " + call, Expect.answerOf(model), program);
    }

    /** The document once more, with maps, big integers and a state for each change. */
    private static final class Model {
        private static final BigInteger LIMIT = BigInteger.valueOf(MOST);

        private static final class Change {
            int[] content;
            int[] contentBegun;
            int sumBegun;
            int state;
        }

        private static final class Row {
            BigInteger[] values;
            int version;
        }

        private final List<Change> all = new ArrayList<>();
        private final Map<Integer, Row> rows = new TreeMap<>();
        private final boolean[] down = new boolean[4];
        private int now;
        private int lockWorker = -1;
        private int lockUntil;
        private int place;

        private static void argument(boolean good) {
            if (!good) {
                throw new IllegalArgumentException();
            }
        }

        private static void index(boolean good) {
            if (!good) {
                throw new IndexOutOfBoundsException();
            }
        }

        private static void possible(boolean good) {
            if (!good) {
                throw new IllegalStateException();
            }
        }

        private static boolean in(int low, int number, int high) {
            return low <= number && number <= high;
        }

        private static boolean goodContent(int kind, int column, int operand) {
            if (!in(0, column, 2)) {
                return false;
            }
            return kind == 0 && in(-1000, operand, 1000)
                    || kind == 1 && (in(-9, operand, -1) || in(1, operand, 9))
                    || kind == 2 && in(0, operand, 2) && operand != column;
        }

        int addChange(int kind, int column, int operand) {
            argument(goodContent(kind, column, operand));
            possible(all.size() != 12);
            Change change = new Change();
            change.content = new int[] {kind, column, operand};
            all.add(change);
            return all.size();
        }

        int edit(int number, int kind, int column, int operand) {
            argument(goodContent(kind, column, operand));
            index(in(1, number, all.size()));
            Change change = all.get(number - 1);
            possible(change.state == 0 || change.state == 2);
            change.content = new int[] {kind, column, operand};
            return checksum(number);
        }

        int changes() {
            return all.size();
        }

        int checksum(int number) {
            index(in(1, number, all.size()));
            int[] c = all.get(number - 1).content;
            return (((c[0] * 31 + c[1]) * 2003 + c[2] + 1001) * 7 + number) % 65521;
        }

        int state(int number) {
            index(in(1, number, all.size()));
            return all.get(number - 1).state;
        }

        int level() {
            return (int) all.stream().filter(change -> change.state == 2).count();
        }

        int drifted() {
            for (int number = 1; number <= all.size(); number++) {
                Change change = all.get(number - 1);
                if (change.state == 2 && change.sumBegun != checksum(number)) {
                    return number;
                }
            }
            return 0;
        }

        /** A change that could be edited back to what it was when it was begun, 0 if there is none. */
        int mendable() {
            return drifted();
        }

        int[] recordedContent(int number) {
            return all.get(number - 1).contentBegun;
        }

        private int active() {
            for (int number = 1; number <= all.size(); number++) {
                if (all.get(number - 1).state % 2 == 1) {
                    return number;
                }
            }
            return 0;
        }

        private boolean upwards() {
            return all.get(active() - 1).state == 1;
        }

        int insert(int id, int first, int second, int third) {
            argument(in(0, id, 39));
            argument(in(-MOST, first, MOST) && in(-MOST, second, MOST) && in(-MOST, third, MOST));
            possible(!rows.containsKey(id));
            Row row = new Row();
            row.values = new BigInteger[] {
                BigInteger.valueOf(first), BigInteger.valueOf(second), BigInteger.valueOf(third)};
            row.version = level();
            if (active() != 0) {
                row.version = id < place ? active() : active() - 1;
            }
            rows.put(id, row);
            return row.version;
        }

        private Row present(int id) {
            index(rows.containsKey(id));
            return rows.get(id);
        }

        int write(int id, int column, int value) {
            argument(in(0, id, 39) && in(0, column, 2) && in(-MOST, value, MOST));
            Row row = present(id);
            int before = row.values[column].intValueExact();
            row.values[column] = BigInteger.valueOf(value);
            return before;
        }

        int delete(int id) {
            argument(in(0, id, 39));
            present(id);
            return rows.remove(id).version;
        }

        int value(int id, int column) {
            argument(in(0, id, 39) && in(0, column, 2));
            return present(id).values[column].intValueExact();
        }

        int version(int id) {
            argument(in(0, id, 39));
            return rows.containsKey(id) ? rows.get(id).version : -1;
        }

        int rowsAt(int version) {
            argument(in(0, version, 12));
            return (int) rows.values().stream().filter(row -> row.version == version).count();
        }

        int valueAt(int id, int column, int version) {
            argument(in(0, id, 39) && in(0, column, 2) && in(0, version, all.size()));
            Row row = present(id);
            BigInteger[] values = row.values;
            int at = row.version;
            while (at != version) {
                values = at < version ? applied(values, at + 1) : undone(values, at);
                possible(values != null);
                at += at < version ? 1 : -1;
            }
            return values[column].intValueExact();
        }

        private BigInteger[] applied(BigInteger[] values, int number) {
            int[] c = all.get(number - 1).content;
            BigInteger operand = BigInteger.valueOf(c[2]);
            if (c[0] == 2) {
                return exchanged(values, c[1], c[2]);
            }
            return with(values, c[1], c[0] == 0 ? values[c[1]].add(operand) : values[c[1]].multiply(operand));
        }

        private BigInteger[] undone(BigInteger[] values, int number) {
            int[] c = all.get(number - 1).content;
            BigInteger operand = BigInteger.valueOf(c[2]);
            if (c[0] == 2) {
                return exchanged(values, c[1], c[2]);
            }
            if (c[0] == 0) {
                return with(values, c[1], values[c[1]].subtract(operand));
            }
            BigInteger[] parts = values[c[1]].divideAndRemainder(operand);
            return parts[1].signum() == 0 ? with(values, c[1], parts[0]) : null;
        }

        private static BigInteger[] with(BigInteger[] values, int column, BigInteger result) {
            if (result.abs().compareTo(LIMIT) > 0) {
                return null;
            }
            BigInteger[] made = values.clone();
            made[column] = result;
            return made;
        }

        private static BigInteger[] exchanged(BigInteger[] values, int one, int other) {
            BigInteger[] made = values.clone();
            made[one] = values[other];
            made[other] = values[one];
            return made;
        }

        int take(int worker, int lease) {
            argument(in(0, worker, 3) && in(1, lease, 100));
            possible(!down[worker]);
            possible(holder() == -1 || holder() == worker);
            lockWorker = worker;
            lockUntil = now + lease;
            return lockUntil;
        }

        Object giveBack(int worker) {
            argument(in(0, worker, 3));
            works(worker);
            lockWorker = -1;
            return "nothing";
        }

        int holder() {
            return now >= lockUntil ? -1 : lockWorker;
        }

        boolean restart(int worker) {
            argument(in(0, worker, 3));
            possible(down[worker]);
            down[worker] = false;
            return holder() == worker;
        }

        int pass(int ticks) {
            argument(in(1, ticks, 1000));
            now += ticks;
            return now;
        }

        private void works(int worker) {
            possible(!down[worker]);
            possible(holder() == worker);
        }

        int begin(int worker) {
            argument(in(0, worker, 3));
            works(worker);
            possible(active() == 0);
            possible(drifted() == 0);
            possible(level() < all.size());
            int number = level() + 1;
            Change change = all.get(number - 1);
            change.state = 1;
            change.sumBegun = checksum(number);
            change.contentBegun = change.content;
            place = 0;
            return number;
        }

        int undo(int worker) {
            argument(in(0, worker, 3));
            works(worker);
            int number = active() == 0 ? level() : active();
            possible(number != 0);
            Change change = all.get(number - 1);
            possible(change.state != 3);
            possible(change.state == 1 || change.sumBegun == checksum(number));
            change.state = 3;
            place = 40;
            return number;
        }

        int step(int worker, int batch, int crashes) {
            argument(in(0, worker, 3) && in(1, batch, 40) && in(0, crashes, 40));
            works(worker);
            possible(active() != 0);
            int number = active();
            boolean up = upwards();
            int to = up ? Math.min(40, place + batch) : Math.max(0, place - batch);
            int changed = 0;
            for (int at = place; at != to; at += up ? 1 : -1) {
                Row row = rows.get(up ? at : at - 1);
                if (row == null || row.version != (up ? number - 1 : number)) {
                    continue;
                }
                BigInteger[] values = up ? applied(row.values, number) : undone(row.values, number);
                if (values == null) {
                    place = at;
                    return changed - 100;
                }
                row.values = values;
                row.version = up ? number : number - 1;
                if (++changed == crashes) {
                    down[worker] = true;
                    return changed;
                }
            }
            place = to;
            if (to == (up ? 40 : 0)) {
                all.get(number - 1).state = up ? 2 : 0;
            }
            return changed;
        }

        int cursor() {
            possible(active() != 0);
            return place;
        }

        float share() {
            possible(active() != 0 && !rows.isEmpty());
            int having = 0;
            for (Row row : rows.values()) {
                having += row.version == active() ? 1 : 0;
            }
            return having / (float) rows.size();
        }
    }
}
