/**
 * The sentences of "Terms" that hold at every moment, looked at behind runs of calls without any second
 * program: what is done, what is at work, and which rows have the change on each side of the cursor.
 */
public final class TermsTest {
    private static final int RUNS = 3000;
    private static final int MOST_CALLS = 200;

    private static long seed;
    private static final int[] seen = new int[4];

    public static void main(String[] args) {
        for (int run = 1; run <= RUNS; run++) {
            seed = run * 104729L;
            Migrationledger x = new Migrationledger();
            int calls = below(MOST_CALLS);
            for (int i = 0; i < calls; i++) {
                Expect.answerOf(oneCall(x));
            }
            look("run " + run, x);
        }
        Expect.answer("looks with a change running, and with one being undone", true,
                () -> seen[1] > RUNS / 10 && seen[3] > RUNS / 10);
        Expect.end();
    }

    private static int below(int bound) {
        seed = seed * 6364136223846793005L + 1442695040888963407L;
        return (int) ((seed >>> 33) % bound);
    }

    /** Mostly small values, so that changes go through; now and then one that blocks them. */
    private static int tableValue() {
        return below(40) == 0 ? 999999999 : below(200) * 36;
    }

    private static Expect.Call oneCall(Migrationledger x) {
        int a = below(40);
        int b = below(40);
        int v = tableValue();
        int crashes = below(5) == 0 ? 1 + below(4) : 0;
        int worker = below(8) == 0 ? below(4) : Math.max(0, x.holder());
        switch (below(16)) {
            case 0:
            case 1:
                return () -> x.addChange(a % 3, b % 3, 1 + a % 2);
            case 2:
            case 3:
            case 4:
                return () -> x.insert(a, v, b * 36, 72);
            case 5:
                return () -> x.delete(a);
            case 6:
                return () -> x.write(a, b % 3, v);
            case 7:
            case 8:
                return () -> x.take(worker, 60 + a);
            case 9:
                return () -> x.pass(1 + a);
            case 10:
                return () -> x.restart(a % 4);
            case 11:
                return () -> x.begin(worker);
            case 12:
                return () -> b < 12 ? x.undo(worker) : x.begin(worker);
            default:
                return () -> x.step(worker, 1 + b % 20, crashes);
        }
    }

    private static void look(String run, Migrationledger x) {
        int level = x.level();
        int phase = phaseBehind(x, level);
        seen[phase]++;
        states(run, x, level, phase);
        if (phase == 0) {
            Expect.thrown(run + ": cursor", Expect.STATE, () -> x.cursor());
            rows(run, x, level + 1, 0);
        } else {
            int cursor = x.cursor();
            Expect.answer(run + ": the cursor is within the table", true,
                    () -> phase == 1 ? cursor >= 0 && cursor < 40 : cursor > 0 && cursor <= 40);
            rows(run, x, level + 1, phase == 1 ? cursor : 40 - cursor);
        }
    }

    /** The state of the change behind the done ones, 0 if there is none. */
    private static int phaseBehind(Migrationledger x, int level) {
        return level < x.changes() ? x.state(level + 1) : 0;
    }

    /** "The done changes are always the first ones; at most one change is running or being undone" */
    private static void states(String run, Migrationledger x, int level, int phase) {
        Expect.answer(run + ": the change behind the done ones is not done", true, () -> phase != 2);
        int count = x.changes();
        for (int number = 1; number <= count; number++) {
            int at = number;
            int due = at <= level ? 2 : at == level + 1 ? phase : 0;
            Expect.answer(run + ": state(" + at + ")", due, () -> x.state(at));
        }
    }

    /**
     * "all present rows with ids below the cursor have it", and "all present rows with the id of the cursor
     * or a greater one do not have it any more"; so many ids lie behind the cursor. The other rows have
     * the changes ahead of it, and without a change at work each row has the level.
     */
    private static void rows(String run, Migrationledger x, int number, int behind) {
        int phase = phaseBehind(x, number - 1);
        int present = 0;
        int with = 0;
        for (int id = 0; id < 40; id++) {
            int version = x.version(id);
            if (version == -1) {
                continue;
            }
            present++;
            with += version == number ? 1 : 0;
            Expect.answer(run + ": version(" + id + ")", true, () -> version == number || version == number - 1);
            if (phase == 0) {
                Expect.answer(run + ": version(" + id + ")", number - 1, () -> version);
            } else if (phase == 1 && id < behind) {
                Expect.answer(run + ": version(" + id + ") below the cursor", number, () -> version);
            } else if (phase == 3 && id >= 40 - behind) {
                Expect.answer(run + ": version(" + id + ") behind the cursor", number - 1, () -> version);
            }
        }
        counts(run, x, number, present, with, phase);
    }

    private static void counts(String run, Migrationledger x, int number, int present, int with, int phase) {
        int without = present - with;
        Expect.answer(run + ": rowsAt(" + (number - 1) + ")", without, () -> x.rowsAt(number - 1));
        if (number <= 12) {
            Expect.answer(run + ": rowsAt(" + number + ")", with, () -> x.rowsAt(number));
        }
        Object due = phase == 0 || present == 0 ? Expect.STATE : (Object) ((float) with / (float) present);
        Expect.answer(run + ": share()", due, () -> x.share());
    }
}
