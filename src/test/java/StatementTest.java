/** What the statements of a procedure do, and how a run ends (Terms; promises 5, 6, 12, 13, 14, 16). */
public final class StatementTest {
    private static final int COMMITTED = PartitionedProcedureStore.COMMITTED;
    private static final int ABORTED = PartitionedProcedureStore.ABORTED;
    private static final Due due = new Due("StatementTest");

    public static void main(String[] args) {
        getReadsTheRow();
        putWritesPresentOrNot();
        insertNeedsAnAbsentRow();
        deleteNeedsARow();
        addWraps();
        needCompares();
        skipPassesOver();
        cellsAreLoadedAndStored();
        outputHasFourInts();
        keysOutOfRangeAbort();
        singleStaysInItsPartition();
        multiReachesAllPartitions();
        registersBeginFresh();
        abortTakesAllBack();
        due.end();
    }

    private static PartitionedProcedureStore with(int partitions, boolean multi, int[]... statements) {
        PartitionedProcedureStore store = Stores.usual(partitions);
        Stores.deploy(store, 5, multi, statements);
        return store;
    }

    private static void commits(PartitionedProcedureStore store, int a, int b, int c, long... output) {
        Stores.runNow(store, 5, a, b, c);
        String call = "command (" + a + ", " + b + ", " + c + ")";
        due.is("answer of " + call, store.answer(0), COMMITTED);
        due.is("how much " + call + " put out", store.output(0, -1), output.length);
        for (int i = 0; i < output.length; i++) {
            due.is("output " + i + " of " + call, store.output(0, i), output[i]);
        }
        due.is("output past the end of " + call, store.output(0, output.length), Due.NONE);
    }

    private static void aborts(PartitionedProcedureStore store, int a, int b, int c, int fault) {
        Stores.runNow(store, 5, a, b, c);
        String call = "command (" + a + ", " + b + ", " + c + ")";
        due.is("answer of " + call, store.answer(0), ABORTED);
        due.is("fault of " + call, store.output(0, -1), fault);
        due.is("output of " + call, store.output(0, 0), Due.NONE);
    }

    private static void getReadsTheRow() {
        PartitionedProcedureStore store = with(2, false, Stores.s(Stores.SET, 4, 1), Stores.s(Stores.GET, 3, 0),
            Stores.s(Stores.OUT, 3));
        aborts(store, 6, 0, 0, 1);
        Stores.runNow(store, Stores.PUT_ONE, 6, -5, 0);
        commits(store, 6, 0, 0, -5);
        Stores.runNow(store, Stores.PUT_ONE, 6, 0, 0);
        commits(store, 6, 0, 0, 0);
        due.is("GET leaves the row", store.row(6), 0);
    }

    private static void putWritesPresentOrNot() {
        PartitionedProcedureStore store = with(2, false, Stores.s(Stores.PUT, 0, 1));
        commits(store, 31, Integer.MAX_VALUE, 0);
        due.is("row", store.row(31), Integer.MAX_VALUE);
        commits(store, 31, Integer.MIN_VALUE, 0);
        due.is("row", store.row(31), Integer.MIN_VALUE);
        due.is("rows", store.rows(1), 1);
    }

    private static void insertNeedsAnAbsentRow() {
        PartitionedProcedureStore store = with(2, false, Stores.s(Stores.INSERT, 0, 1));
        commits(store, 4, 0, 0);
        due.is("row", store.row(4), 0);
        aborts(store, 4, 8, 0, 0);
        due.is("row", store.row(4), 0);
        Stores.runNow(store, Stores.REMOVE_ONE, 4, 0, 0);
        commits(store, 4, 9, 0);
        due.is("row", store.row(4), 9);
    }

    private static void deleteNeedsARow() {
        PartitionedProcedureStore store = with(2, false, Stores.s(Stores.DELETE, 0));
        aborts(store, 3, 0, 0, 0);
        Stores.runNow(store, Stores.PUT_ONE, 3, 1, 0);
        due.is("rows", store.rows(1), 1);
        commits(store, 3, 0, 0);
        due.is("row", store.row(3), Due.NONE);
        due.is("rows", store.rows(1), 0);
        aborts(store, 3, 0, 0, 0);
    }

    private static void addWraps() {
        PartitionedProcedureStore store = with(1, false, Stores.s(Stores.ADD, 3, 1, 2), Stores.s(Stores.OUT, 3),
            Stores.s(Stores.ADD, 1, 1, 1), Stores.s(Stores.OUT, 1));
        commits(store, 0, 20, 22, 42, 40);
        commits(store, 0, Integer.MAX_VALUE, 1, Integer.MIN_VALUE, -2);
        commits(store, 0, Integer.MIN_VALUE, -1, Integer.MAX_VALUE, 0);
    }

    private static void needCompares() {
        PartitionedProcedureStore store = with(1, false, Stores.s(Stores.OUT, 1), Stores.s(Stores.NEED, 1, 2));
        commits(store, 0, 5, 4, 5);
        commits(store, 0, 5, 5, 5);
        aborts(store, 0, 4, 5, 1);
        aborts(store, 0, Integer.MIN_VALUE, Integer.MAX_VALUE, 1);
        commits(store, 0, Integer.MAX_VALUE, Integer.MIN_VALUE, Integer.MAX_VALUE);
    }

    private static void skipPassesOver() {
        PartitionedProcedureStore store = with(1, false, Stores.s(Stores.SKIP, 1, 2), Stores.s(Stores.OUT, 1),
            Stores.s(Stores.SKIP, 2, 2), Stores.s(Stores.OUT, 2), Stores.s(Stores.OUT, 0));
        commits(store, 7, 1, 1, 1, 1, 7);
        commits(store, 7, 0, 1, 1, 7);
        commits(store, 7, -1, 0, -1);
        commits(store, 7, 0, 0, 0, 7);
        PartitionedProcedureStore all = with(1, false, Stores.s(Stores.SKIP, 1, 7), Stores.s(Stores.OUT, 0),
            Stores.s(Stores.OUT, 0), Stores.s(Stores.OUT, 0), Stores.s(Stores.OUT, 0), Stores.s(Stores.OUT, 0),
            Stores.s(Stores.OUT, 0), Stores.s(Stores.OUT, 0));
        commits(all, 3, 0, 0);
        aborts(all, 3, 1, 0, 5);
    }

    private static void cellsAreLoadedAndStored() {
        PartitionedProcedureStore store = with(3, true, Stores.s(Stores.LOAD, 3, 0), Stores.s(Stores.STORE, 1, 2),
            Stores.s(Stores.OUT, 3));
        commits(store, 0, 7, 77, 0);
        due.is("cell 7", store.replicated(7), 77);
        commits(store, 7, 0, -1, 77);
        due.is("cell 0", store.replicated(0), -1);
        aborts(store, 8, 0, 5, 0);
        aborts(store, -1, 0, 5, 0);
        aborts(store, 0, 8, 5, 1);
        aborts(store, 0, -1, 5, 1);
        aborts(store, Integer.MIN_VALUE, 0, 5, 0);
        due.is("cell 0", store.replicated(0), -1);
        PartitionedProcedureStore single = with(3, false, Stores.s(Stores.LOAD, 3, 1), Stores.s(Stores.OUT, 3));
        Stores.runNow(single, Stores.STORE_CELL, 6, 66, 0);
        commits(single, 1, 6, 0, 66);
        commits(single, 2, 5, 0, 0);
    }

    private static void outputHasFourInts() {
        PartitionedProcedureStore store = with(1, false, Stores.s(Stores.OUT, 0), Stores.s(Stores.OUT, 1),
            Stores.s(Stores.OUT, 2), Stores.s(Stores.OUT, 5), Stores.s(Stores.SKIP, 2, 1), Stores.s(Stores.OUT, 0));
        commits(store, 1, 2, 0, 1, 2, 0, 0);
        aborts(store, 1, 2, 3, 5);
    }

    private static void keysOutOfRangeAbort() {
        int[] ops = {Stores.GET, Stores.PUT, Stores.INSERT, Stores.DELETE};
        int[] keys = {-1, 32, -32, Integer.MIN_VALUE, Integer.MAX_VALUE};
        for (int mode = 0; mode < 2; mode++) {
            for (int op : ops) {
                PartitionedProcedureStore store = with(1, mode == 1, Stores.s(Stores.SET, 5, 0), Stores.s(op, 0, 0));
                for (int key : keys) {
                    aborts(store, key, 0, 0, 1);
                }
                due.is("rows", store.rows(0), 0);
            }
        }
    }

    private static void singleStaysInItsPartition() {
        int[] ops = {Stores.GET, Stores.PUT, Stores.DELETE};
        for (int op : ops) {
            for (int key = 0; key < 8; key++) {
                PartitionedProcedureStore store = with(4, false, Stores.s(op, 1, 1));
                for (int a = -4; a < 4; a++) {
                    Stores.runNow(store, Stores.PUT_ONE, key, key, 0);
                    if (Math.floorMod(a, 4) == key % 4) {
                        commits(store, a, key, 0);
                    } else {
                        aborts(store, a, key, 0, 0);
                        due.is("row", store.row(key), key);
                    }
                }
            }
        }
        PartitionedProcedureStore store = with(4, false, Stores.s(Stores.INSERT, 1, 2));
        aborts(store, 1, 2, 0, 0);
        commits(store, 1, 5, 55);
        commits(store, -1, 3, 33);
        aborts(store, -1, 4, 33, 0);
        due.is("row 5", store.row(5), 55);
        due.is("row 3", store.row(3), 33);
    }

    private static void multiReachesAllPartitions() {
        PartitionedProcedureStore store = with(4, true, Stores.s(Stores.INSERT, 0, 2), Stores.s(Stores.GET, 3, 1),
            Stores.s(Stores.DELETE, 1), Stores.s(Stores.OUT, 3));
        Stores.runNow(store, Stores.PUT_ONE, 10, 100, 0);
        commits(store, 13, 10, 7, 100);
        due.is("row 13", store.row(13), 7);
        due.is("row 10", store.row(10), Due.NONE);
    }

    private static void registersBeginFresh() {
        PartitionedProcedureStore store = with(2, true, Stores.s(Stores.OUT, 3), Stores.s(Stores.OUT, 4),
            Stores.s(Stores.OUT, 5), Stores.s(Stores.SET, 3, 9), Stores.s(Stores.SET, 4, 9), Stores.s(Stores.SET, 5, 9));
        commits(store, 1, 2, 3, 0, 0, 0);
        commits(store, 1, 2, 3, 0, 0, 0);
    }

    private static void abortTakesAllBack() {
        PartitionedProcedureStore store = with(2, true, Stores.s(Stores.STORE, 0, 2), Stores.s(Stores.PUT, 0, 2),
            Stores.s(Stores.DELETE, 1), Stores.s(Stores.PUT, 1, 2), Stores.s(Stores.OUT, 2), Stores.s(Stores.NEED, 2, 3));
        Stores.runNow(store, Stores.PUT_ONE, 6, 60, 0);
        aborts(store, 3, 6, -1, 5);
        due.is("row 3", store.row(3), Due.NONE);
        due.is("row 6", store.row(6), 60);
        due.is("cell 3", store.replicated(3), 0);
        aborts(store, 3, 7, 1, 2);
        due.is("row 3", store.row(3), Due.NONE);
        due.is("cell 3", store.replicated(3), 0);
        commits(store, 3, 6, 1, 1);
        due.is("row 3", store.row(3), 1);
        due.is("row 6", store.row(6), 1);
        due.is("cell 3", store.replicated(3), 1);
    }
}
