/**
 * The edges of "Terms" that concern the lock: when it is free, the first and the last tick of a lease and
 * the one at which it is just over, and a worker that has crashed.
 */
public final class EdgeLockTest {
    private static final int WORKERS = 4;

    public static void main(String[] args) {
        freeAtFirst();
        eachLeaseByEachWorker();
        eachLeaseFromALaterTime();
        leaseTakenAnew();
        oneOwnerAtATime();
        leaseJustOver();
        givenBack();
        givenBackIsNotEndedLater();
        timePasses();
        crashedWorkerCanDoNothing();
        crashedWorkersLockStays();
        restartAtEachTick();
        restartOfWorkersThatRun();
        restartWhileAnotherHasTheLock();
        restartDoesNotLengthenTheLease();
        allWorkersCrash();
        crashOfTheSameWorkerTwice();
        Expect.end();
    }

    /** "The time is 0 at first", and the lock is free. */
    private static void freeAtFirst() {
        for (int worker = 0; worker < WORKERS; worker++) {
            int w = worker;
            Migrationledger x = Ledgers.withChanges(1);
            Expect.answer("holder", -1, () -> x.holder());
            workIsRefused(x, w);
            Expect.thrown("restart", Expect.STATE, () -> x.restart(w));
            Expect.answer("holder", -1, () -> x.holder());
            Expect.answer("take", 1, () -> x.take(w, 1));
            Expect.answer("holder", w, () -> x.holder());
        }
    }

    private static void workIsRefused(Migrationledger x, int worker) {
        Expect.thrown("giveBack by " + worker, Expect.STATE, () -> Ledgers.giveBack(x, worker));
        Expect.thrown("begin by " + worker, Expect.STATE, () -> x.begin(worker));
        Expect.thrown("undo by " + worker, Expect.STATE, () -> x.undo(worker));
        Expect.thrown("step by " + worker, Expect.STATE, () -> x.step(worker, 1, 0));
    }

    /** "it is free again when the time is the time of taking plus the lease" */
    private static void eachLeaseByEachWorker() {
        for (int worker = 0; worker < WORKERS; worker++) {
            for (int lease = 1; lease <= 100; lease++) {
                lease(new Migrationledger(), 0, worker, lease);
            }
        }
    }

    private static void eachLeaseFromALaterTime() {
        int[] times = {1, 7, 99, 100, 101, 1000};
        for (int time : times) {
            for (int lease = 1; lease <= 100; lease += 3) {
                Migrationledger x = new Migrationledger();
                x.pass(time);
                lease(x, time, 2, lease);
            }
        }
    }

    private static void lease(Migrationledger x, int time, int worker, int lease) {
        String what = " by " + worker + " at " + time + " for " + lease;
        int other = (worker + 1) % WORKERS;
        Expect.answer("take" + what, time + lease, () -> x.take(worker, lease));
        Expect.answer("holder when taken" + what, worker, () -> x.holder());
        if (lease > 1) {
            Expect.answer("pass", time + lease - 1, () -> x.pass(lease - 1));
        }
        Expect.answer("holder in the last tick" + what, worker, () -> x.holder());
        Expect.thrown("take by another in the last tick" + what, Expect.STATE, () -> x.take(other, 1));
        Expect.answer("pass", time + lease, () -> x.pass(1));
        Expect.answer("holder when it is over" + what, -1, () -> x.holder());
        Expect.thrown("giveBack when it is over" + what, Expect.STATE, () -> Ledgers.giveBack(x, worker));
        Expect.answer("take by another when it is over" + what, time + lease + 1, () -> x.take(other, 1));
        Expect.answer("holder then" + what, other, () -> x.holder());
    }

    /** take: "one that has it gets a new lease from now on", be it over sooner or later than the old one. */
    private static void leaseTakenAnew() {
        for (int lease = 1; lease <= 100; lease++) {
            int anew = lease;
            Migrationledger x = new Migrationledger();
            x.take(1, 50);
            x.pass(49);
            Expect.answer("take anew for " + anew, 49 + anew, () -> x.take(1, anew));
            if (anew > 1) {
                x.pass(anew - 1);
            }
            Expect.answer("holder in the last tick of " + anew, 1, () -> x.holder());
            x.pass(1);
            Expect.answer("holder when " + anew + " is over", -1, () -> x.holder());
        }
        Migrationledger y = new Migrationledger();
        y.take(3, 100);
        Expect.answer("take anew at once, shorter", 1, () -> y.take(3, 1));
        Expect.answer("take anew at once, longest", 100, () -> y.take(3, 100));
        Expect.answer("take anew at once, short again", 2, () -> y.take(3, 2));
        y.pass(1);
        Expect.answer("holder at 1", 3, () -> y.holder());
        y.pass(1);
        Expect.answer("holder at 2", -1, () -> y.holder());
    }

    /** take: "another worker has the lock"; refusing it does not touch the lease. */
    private static void oneOwnerAtATime() {
        for (int worker = 0; worker < WORKERS; worker++) {
            int owner = worker;
            Migrationledger x = Ledgers.withChanges(1);
            x.take(owner, 10);
            for (int other = 0; other < WORKERS; other++) {
                int w = other;
                if (w != owner) {
                    Expect.thrown("take by " + w + ", held by " + owner, Expect.STATE, () -> x.take(w, 100));
                    workIsRefused(x, w);
                }
            }
            Expect.answer("holder", owner, () -> x.holder());
            Expect.answer("begin", 1, () -> x.begin(owner));
            x.pass(10);
            Expect.answer("holder at 10", -1, () -> x.holder());
        }
    }

    /** A worker whose lease is just over can do nothing but take the lock again. */
    private static void leaseJustOver() {
        Migrationledger x = Ledgers.withChanges(2);
        x.take(0, 5);
        x.pass(4);
        Expect.answer("begin in the last tick", 1, () -> x.begin(0));
        Expect.answer("step in the last tick", 0, () -> x.step(0, 1, 0));
        Expect.answer("undo in the last tick", 1, () -> x.undo(0));
        x.pass(1);
        workIsRefused(x, 0);
        Expect.answer("cursor", 40, () -> x.cursor());
        Expect.answer("take again", 6, () -> x.take(0, 1));
        Expect.answer("step", 0, () -> x.step(0, 40, 0));
        x.pass(1);
        workIsRefused(x, 0);
        Expect.answer("take again", 106, () -> x.take(0, 100));
        Expect.answer("giveBack in the first tick", "given back", () -> Ledgers.giveBack(x, 0));
        x.take(0, 2);
        x.pass(1);
        Expect.answer("giveBack in the last tick", "given back", () -> Ledgers.giveBack(x, 0));
    }

    /** "or when it is given back": free in the very same tick, for each worker. */
    private static void givenBack() {
        for (int worker = 0; worker < WORKERS; worker++) {
            for (int next = 0; next < WORKERS; next++) {
                int w = worker;
                int n = next;
                Migrationledger x = Ledgers.withChanges(1);
                x.pass(2);
                x.take(w, 100);
                Expect.answer("giveBack by " + w, "given back", () -> Ledgers.giveBack(x, w));
                Expect.answer("holder", -1, () -> x.holder());
                workIsRefused(x, w);
                Expect.answer("take by " + n, 3, () -> x.take(n, 1));
                Expect.answer("holder", n, () -> x.holder());
                x.pass(1);
                Expect.answer("holder when it is over", -1, () -> x.holder());
            }
        }
    }

    /** The end of a lease that was given back is nothing to the next one. */
    private static void givenBackIsNotEndedLater() {
        Migrationledger x = new Migrationledger();
        x.take(0, 5);
        x.pass(1);
        x.giveBack(0);
        x.take(1, 100);
        x.pass(4);
        Expect.answer("holder when the first lease would be over", 1, () -> x.holder());
        x.pass(95);
        Expect.answer("holder at 100", 1, () -> x.holder());
        x.pass(1);
        Expect.answer("holder at 101", -1, () -> x.holder());
    }

    /** pass: "Returns the time after the change." */
    private static void timePasses() {
        for (int ticks = 1; ticks <= 1000; ticks++) {
            int t = ticks;
            Migrationledger x = new Migrationledger();
            Expect.answer("pass " + t, t, () -> x.pass(t));
            Expect.answer("pass 1000 more", t + 1000, () -> x.pass(1000));
            Expect.answer("take then", t + 1001, () -> x.take(0, 1));
        }
        Migrationledger y = new Migrationledger();
        y.take(0, 100);
        y.pass(1000);
        Expect.answer("holder long behind the lease", -1, () -> y.holder());
        Expect.thrown("pass 0", Expect.ARGUMENT, () -> y.pass(0));
        Expect.thrown("pass 1001", Expect.ARGUMENT, () -> y.pass(1001));
        Expect.answer("the time is as it was", 1001, () -> y.pass(1));
    }

    // ---- a worker that has crashed

    private static Migrationledger crashed(int worker, int lease) {
        Migrationledger x = Ledgers.withChanges(1);
        x.insert(0, 0, 0, 0);
        x.insert(1, 0, 0, 0);
        x.take(worker, lease);
        x.begin(worker);
        Expect.answer("crash", 1, () -> x.step(worker, 40, 1));
        return x;
    }

    /** "A worker that has crashed can do nothing before it is restarted", with the lock or without. */
    private static void crashedWorkerCanDoNothing() {
        for (int worker = 0; worker < WORKERS; worker++) {
            int w = worker;
            Migrationledger x = crashed(w, 3);
            for (int time = 0; time <= 4; time++) {
                workIsRefused(x, w);
                Expect.thrown("take by the crashed one at " + time, Expect.STATE, () -> x.take(w, 100));
                x.pass(1);
            }
            int other = (w + 1) % WORKERS;
            x.take(other, 3);
            workIsRefused(x, w);
            x.giveBack(other);
            Expect.thrown("take by the crashed one, given back", Expect.STATE, () -> x.take(w, 1));
            Expect.answer("restart", false, () -> x.restart(w));
            Expect.answer("take", 6, () -> x.take(w, 1));
            Expect.answer("step", 1, () -> x.step(w, 40, 0));
        }
    }

    /** "its lock stays until the lease is over" */
    private static void crashedWorkersLockStays() {
        for (int lease = 1; lease <= 100; lease++) {
            int l = lease;
            Migrationledger x = crashed(3, l);
            if (l > 1) {
                x.pass(l - 1);
            }
            Expect.answer("holder in the last tick of " + l, 3, () -> x.holder());
            Expect.thrown("take by another in the last tick of " + l, Expect.STATE, () -> x.take(0, 1));
            x.pass(1);
            Expect.answer("holder when " + l + " is over", -1, () -> x.holder());
            Expect.answer("take by another when " + l + " is over", l + 1, () -> x.take(0, 1));
            Expect.answer("step by the other", 1, () -> x.step(0, 40, 0));
        }
    }

    /** restart: "Returns true if it has the lock still." */
    private static void restartAtEachTick() {
        for (int time = 0; time <= 12; time++) {
            boolean still = time < 10;
            String at = " at " + time;
            Migrationledger x = crashed(1, 10);
            if (time > 0) {
                x.pass(time);
            }
            Expect.answer("restart" + at, still, () -> x.restart(1));
            Expect.answer("holder" + at, still ? 1 : -1, () -> x.holder());
            Expect.answer("step" + at, still ? (Object) 1 : Expect.STATE, () -> x.step(1, 40, 0));
            Expect.thrown("restart again" + at, Expect.STATE, () -> x.restart(1));
        }
    }

    /** restart: "Throws IllegalStateException if the worker has not crashed", though another one has. */
    private static void restartOfWorkersThatRun() {
        for (int worker = 0; worker < WORKERS; worker++) {
            Migrationledger x = crashed(worker, 10);
            for (int other = 0; other < WORKERS; other++) {
                int w = other;
                if (w != worker) {
                    Expect.thrown("restart " + w, Expect.STATE, () -> x.restart(w));
                }
            }
            int crashed = worker;
            Expect.answer("restart " + crashed, true, () -> x.restart(crashed));
        }
        Migrationledger y = Ledgers.running(0, true);
        y.step(0, 5, 6);
        Expect.thrown("restart behind a step that did not come to its crash", Expect.STATE, () -> y.restart(0));
        y.step(0, 5, 0);
        Expect.thrown("restart behind a step without a crash", Expect.STATE, () -> y.restart(0));
    }

    private static void restartWhileAnotherHasTheLock() {
        Migrationledger x = crashed(2, 10);
        x.pass(10);
        x.take(0, 10);
        Expect.answer("restart", false, () -> x.restart(2));
        Expect.answer("holder", 0, () -> x.holder());
        Expect.thrown("take", Expect.STATE, () -> x.take(2, 10));
        x.giveBack(0);
        Expect.answer("take, given back", 20, () -> x.take(2, 10));
    }

    private static void restartDoesNotLengthenTheLease() {
        Migrationledger x = crashed(2, 10);
        x.pass(9);
        Expect.answer("restart in the last tick", true, () -> x.restart(2));
        x.pass(1);
        Expect.answer("holder when it is over", -1, () -> x.holder());
        workIsRefused(x, 2);
    }

    /** Each worker crashes behind a row; the locks go over one by one, and each is restarted on its own. */
    private static void allWorkersCrash() {
        Migrationledger x = Ledgers.withChanges(1);
        Ledgers.fill(x);
        for (int worker = 0; worker < WORKERS; worker++) {
            int w = worker;
            Expect.answer("take by " + w, w * 2 + 2, () -> x.take(w, 2));
            if (w == 0) {
                x.begin(w);
            }
            Expect.answer("crash of " + w, 1, () -> x.step(w, 40, 1));
            x.pass(2);
        }
        Expect.answer("holder", -1, () -> x.holder());
        Expect.answer("rowsAt 1", 4, () -> x.rowsAt(1));
        Expect.answer("cursor", 0, () -> x.cursor());
        for (int worker = WORKERS - 1; worker >= 0; worker--) {
            int w = worker;
            Expect.thrown("take by " + w, Expect.STATE, () -> x.take(w, 2));
            Expect.answer("restart " + w, false, () -> x.restart(w));
            Expect.answer("take by " + w, 9, () -> x.take(w, 1));
            x.giveBack(w);
        }
        x.take(3, 1);
        Expect.answer("the other rows", 36, () -> x.step(3, 40, 0));
    }

    private static void crashOfTheSameWorkerTwice() {
        Migrationledger x = crashed(0, 100);
        Expect.answer("restart", true, () -> x.restart(0));
        Expect.answer("crash again", 1, () -> x.step(0, 40, 1));
        Expect.thrown("step", Expect.STATE, () -> x.step(0, 40, 0));
        Expect.answer("restart again", true, () -> x.restart(0));
        Expect.answer("step to the end", 0, () -> x.step(0, 40, 1));
        Expect.answer("state", 2, () -> x.state(1));
    }
}
