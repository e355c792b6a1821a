/** Objects in a wanted state, made with few calls; where a worker is needed, it is worker 0. */
final class Ledgers {
    static final int MOST = 1000000000;
    static final int ROWS = 40;
    static final int MOST_CHANGES = 12;

    private Ledgers() {
    }

    /** Change number i adds i to column 0. */
    static Migrationledger withChanges(int count) {
        Migrationledger x = new Migrationledger();
        for (int number = 1; number <= count; number++) {
            x.addChange(0, 0, number);
        }
        return x;
    }

    static Migrationledger withDone(int done, int count) {
        Migrationledger x = withChanges(count);
        for (int i = 0; i < done; i++) {
            finish(x);
        }
        return x;
    }

    /** Worker 0 takes the lock for 100 ticks, and the first pending change becomes done. */
    static void finish(Migrationledger x) {
        x.take(0, 100);
        x.begin(0);
        x.step(0, ROWS, 0);
    }

    /** Worker 0 takes the lock for 100 ticks, and the change done last becomes pending. */
    static void takeBack(Migrationledger x) {
        x.take(0, 100);
        x.undo(0);
        x.step(0, ROWS, 0);
    }

    /** Every row is present, with the values id, 100 and -100. */
    static void fill(Migrationledger x) {
        for (int id = 0; id < ROWS; id++) {
            x.insert(id, id, 100, -100);
        }
    }

    /** The only change, which adds 1 to column 0, is running and has the cursor. */
    static Migrationledger running(int cursor, boolean filled) {
        Migrationledger x = withChanges(1);
        if (filled) {
            fill(x);
        }
        x.take(0, 100);
        x.begin(0);
        if (cursor > 0) {
            x.step(0, cursor, 0);
        }
        return x;
    }

    /** The only change, which adds 1 to column 0, was done, is being undone and has the cursor. */
    static Migrationledger beingUndone(int cursor, boolean filled) {
        Migrationledger x = running(0, filled);
        x.step(0, ROWS, 0);
        x.undo(0);
        if (cursor < ROWS) {
            x.step(0, ROWS - cursor, 0);
        }
        return x;
    }

    /** Worker 0 has crashed behind the row 0, and its lock is over at 10. */
    static Migrationledger crashed() {
        Migrationledger x = withChanges(1);
        x.insert(0, 0, 0, 0);
        x.take(0, 10);
        x.begin(0);
        x.step(0, ROWS, 1);
        return x;
    }

    /** giveBack, which answers nothing, as a call with an answer. */
    static String giveBack(Migrationledger x, int worker) {
        x.giveBack(worker);
        return "given back";
    }
}
