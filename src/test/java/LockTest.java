/** Promises 16 to 20: the lock, its lease, the crashed workers and the time. */
public final class LockTest {
    private static final int[] BAD_WORKERS = {-1, 4, 5, Integer.MIN_VALUE, Integer.MAX_VALUE};

    public static void main(String[] args) {
        takes();
        refusesToTake();
        givesBack();
        endsTheLease();
        passesTime();
        keepsACrashedWorkersLock();
        restarts();
        Expect.end();
    }

    private static void takes() {
        Migrationledger x = new Migrationledger();
        Expect.answer("holder of a new object", -1, () -> x.holder());
        Expect.answer("take 3", 1, () -> x.take(3, 1));
        Expect.answer("holder", 3, () -> x.holder());
        x.pass(1);
        Expect.answer("take 0", 101, () -> x.take(0, 100));
        Expect.answer("holder", 0, () -> x.holder());
        x.pass(10);
        Expect.answer("take anew, shorter", 16, () -> x.take(0, 5));
        x.pass(4);
        Expect.answer("holder at 15", 0, () -> x.holder());
        x.pass(1);
        Expect.answer("holder at 16", -1, () -> x.holder());
    }

    private static void refusesToTake() {
        Migrationledger x = new Migrationledger();
        x.take(1, 10);
        for (int worker : BAD_WORKERS) {
            Expect.thrown("take " + worker, Expect.ARGUMENT, () -> x.take(worker, 10));
            Expect.thrown("giveBack " + worker, Expect.ARGUMENT, () -> giveBack(x, worker));
            Expect.thrown("restart " + worker, Expect.ARGUMENT, () -> x.restart(worker));
        }
        int[] badLeases = {0, -1, 101, Integer.MIN_VALUE, Integer.MAX_VALUE};
        for (int lease : badLeases) {
            Expect.thrown("take for " + lease, Expect.ARGUMENT, () -> x.take(1, lease));
            Expect.thrown("take another's for " + lease, Expect.ARGUMENT, () -> x.take(2, lease));
        }
        Expect.thrown("take another's", Expect.STATE, () -> x.take(2, 100));
        Expect.answer("holder", 1, () -> x.holder());
        x.pass(10);
        Expect.answer("the lease is as it was", -1, () -> x.holder());
    }

    private static void givesBack() {
        Migrationledger x = new Migrationledger();
        Expect.thrown("give back a free one", Expect.STATE, () -> giveBack(x, 0));
        x.take(2, 10);
        Expect.thrown("give back another's", Expect.STATE, () -> giveBack(x, 0));
        Expect.answer("holder", 2, () -> x.holder());
        Expect.answer("give back", "given back", () -> giveBack(x, 2));
        Expect.answer("holder", -1, () -> x.holder());
        Expect.thrown("give back again", Expect.STATE, () -> giveBack(x, 2));
        Expect.answer("another takes it", 10, () -> x.take(0, 10));
        x.pass(10);
        Expect.thrown("give back behind the lease", Expect.STATE, () -> giveBack(x, 0));
    }

    private static String giveBack(Migrationledger x, int worker) {
        x.giveBack(worker);
        return "given back";
    }

    private static void endsTheLease() {
        Migrationledger x = new Migrationledger();
        x.addChange(0, 0, 1);
        x.take(0, 2);
        x.pass(1);
        Expect.answer("begin in the lease", 1, () -> x.begin(0));
        x.pass(1);
        Expect.thrown("step behind the lease", Expect.STATE, () -> x.step(0, 1, 0));
        Expect.thrown("undo behind the lease", Expect.STATE, () -> x.undo(0));
        Expect.answer("another takes it", 7, () -> x.take(1, 5));
        Expect.thrown("the first one does not get it", Expect.STATE, () -> x.take(0, 5));
        Expect.answer("step by the other", 0, () -> x.step(1, 1, 0));
    }

    private static void passesTime() {
        Migrationledger x = new Migrationledger();
        Expect.answer("pass 1", 1, () -> x.pass(1));
        Expect.answer("pass 1000", 1001, () -> x.pass(1000));
        int[] bad = {0, -1, 1001, Integer.MIN_VALUE, Integer.MAX_VALUE};
        for (int ticks : bad) {
            Expect.thrown("pass " + ticks, Expect.ARGUMENT, () -> x.pass(ticks));
        }
        Expect.answer("pass 2", 1003, () -> x.pass(2));
        Expect.answer("take", 1103, () -> x.take(0, 100));
    }

    private static Migrationledger crashed() {
        Migrationledger x = new Migrationledger();
        x.addChange(0, 0, 1);
        x.insert(0, 0, 0, 0);
        x.take(2, 10);
        x.begin(2);
        Expect.answer("crash", 1, () -> x.step(2, 40, 1));
        return x;
    }

    private static void keepsACrashedWorkersLock() {
        Migrationledger x = crashed();
        Expect.answer("holder", 2, () -> x.holder());
        Expect.thrown("take by the crashed one", Expect.STATE, () -> x.take(2, 10));
        Expect.thrown("give back by it", Expect.STATE, () -> giveBack(x, 2));
        Expect.thrown("begin by it", Expect.STATE, () -> x.begin(2));
        Expect.thrown("undo by it", Expect.STATE, () -> x.undo(2));
        Expect.thrown("step by it", Expect.STATE, () -> x.step(2, 1, 0));
        Expect.thrown("take by another", Expect.STATE, () -> x.take(3, 10));
        Expect.thrown("restart another", Expect.STATE, () -> x.restart(3));
        x.pass(9);
        Expect.answer("holder at 9", 2, () -> x.holder());
        x.pass(1);
        Expect.answer("holder at 10", -1, () -> x.holder());
        Expect.thrown("take by the crashed one", Expect.STATE, () -> x.take(2, 10));
        Expect.answer("take by another", 20, () -> x.take(3, 10));
        Expect.answer("step by another", 0, () -> x.step(3, 40, 0));
        Expect.answer("restart while another has it", false, () -> x.restart(2));
        Expect.answer("holder", 3, () -> x.holder());
    }

    private static void restarts() {
        Migrationledger x = crashed();
        Expect.answer("restart in the lease", true, () -> x.restart(2));
        Expect.thrown("restart again", Expect.STATE, () -> x.restart(2));
        Expect.answer("works on", 0, () -> x.step(2, 1, 0));
        Migrationledger y = crashed();
        y.pass(10);
        Expect.answer("restart behind the lease", false, () -> y.restart(2));
        Expect.answer("take", 20, () -> y.take(2, 10));
        Expect.thrown("restart one that never crashed", Expect.STATE, () -> y.restart(0));
    }
}
