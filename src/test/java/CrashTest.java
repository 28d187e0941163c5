/** Promises 10, 13, 14, 16 and 17: crash, row, replicated, rows, count. */
public final class CrashTest {
    private static final int REFUSED = PartitionedProcedureStore.REFUSED;
    private static final int LOST = PartitionedProcedureStore.LOST;
    private static final Due due = new Due("CrashTest");

    public static void main(String[] args) {
        crashOfNothing();
        durableCommandsAreDone();
        durableCommandsAreDoneInOrder();
        othersAreGone();
        numbersAreGivenAgain();
        nothingWaits();
        snapshotUnderWayIsDropped();
        oldPartsAreForgotten();
        answersStay();
        draftStays();
        crashTwice();
        rowsAndCellsOutOfRange();
        rowsAreCounted();
        countsOutOfRange();
        due.end();
    }

    private static void crashOfNothing() {
        PartitionedProcedureStore store = Stores.usual(2);
        due.is("crash of nothing", store.crash(), 0);
        store.invoke(0, Stores.PUT_ONE, 0, 1, 0);
        store.step(0);
        due.is("crash without a flush", store.crash(), 0);
        due.is("row(0)", store.row(0), Due.NONE);
        due.is("answer(0)", store.answer(0), LOST);
        due.is("procedures stay", store.invoke(0, Stores.PUT_ONE, 0, 2, 0), 1);
    }

    private static void durableCommandsAreDone() {
        PartitionedProcedureStore store = Stores.usual(2);
        store.invoke(0, Stores.PUT_ONE, 0, 1, 0);
        store.invoke(1, Stores.PUT_TWO, 1, 2, 3);
        store.invoke(2, Stores.STORE_CELL, 4, 5, 0);
        store.flush();
        store.step(0);
        store.step(0);
        due.is("row(1) before", store.row(1), Due.NONE);
        due.is("crash", store.crash(), 3);
        due.is("row(0)", store.row(0), 1);
        due.is("row(1)", store.row(1), 3);
        due.is("row(2)", store.row(2), 3);
        due.is("replicated(4)", store.replicated(4), 5);
        for (int client = 0; client < 3; client++) {
            due.is("answer(" + client + ")", store.answer(client),
                client == 0 ? PartitionedProcedureStore.COMMITTED : LOST);
        }
        due.is("log", store.count(2), 3);
    }

    private static void durableCommandsAreDoneInOrder() {
        PartitionedProcedureStore store = Stores.usual(2);
        Stores.deploy(store, 4, false, Stores.s(Stores.GET, 3, 0), Stores.s(Stores.ADD, 3, 3, 3),
            Stores.s(Stores.ADD, 3, 3, 1), Stores.s(Stores.PUT, 0, 3));
        store.invoke(0, Stores.PUT_ONE, 2, 1, 0);
        store.invoke(1, 4, 2, 1, 0);
        store.invoke(2, 4, 2, 10, 0);
        store.invoke(3, 4, 4, 10, 0);
        store.flush();
        store.crash();
        due.is("row(2)", store.row(2), 16);
        due.is("row(4), whose command aborts", store.row(4), Due.NONE);
    }

    private static void othersAreGone() {
        PartitionedProcedureStore store = Stores.usual(2);
        Stores.runNow(store, Stores.PUT_ONE, 0, 1, 0);
        store.invoke(0, Stores.PUT_ONE, 0, 2, 0);
        store.invoke(1, Stores.STORE_CELL, 0, 2, 0);
        Stores.stepAll(store);
        due.is("row(0) before", store.row(0), 2);
        due.is("crash", store.crash(), 1);
        due.is("row(0)", store.row(0), 1);
        due.is("replicated(0)", store.replicated(0), 0);
        due.is("log", store.count(2), 1);
        due.is("flush", store.flush(), 1);
        due.is("crash again", store.crash(), 1);
        due.is("row(0)", store.row(0), 1);
    }

    private static void numbersAreGivenAgain() {
        PartitionedProcedureStore store = Stores.usual(2);
        Stores.runNow(store, Stores.PUT_ONE, 0, 1, 0);
        store.invoke(0, Stores.PUT_ONE, 0, 2, 0);
        store.snapshot();
        due.is("count(0) before", store.count(0), 3);
        store.crash();
        due.is("count(0) after", store.count(0), 1);
        due.is("snapshot", store.snapshot(), 2);
        due.is("invoke", store.invoke(0, Stores.PUT_ONE, 0, 3, 0), 3);
        due.is("flush", store.flush(), 3);
        due.is("crash", store.crash(), 3);
        due.is("a durable marker's number is not given again", store.snapshot(), 4);
        due.is("row(0)", store.row(0), 3);
    }

    private static void nothingWaits() {
        PartitionedProcedureStore store = Stores.usual(3);
        store.invoke(0, Stores.PUT_TWO, 0, 1, 5);
        store.invoke(1, Stores.PUT_ONE, 1, 5, 0);
        store.snapshot();
        store.flush();
        store.step(1);
        due.is("count(5) before", store.count(5), 1);
        store.crash();
        due.is("count(5)", store.count(5), 0);
        for (int site = 0; site < 3; site++) {
            due.is("waiting", store.waiting(site), 0);
            due.is("step", store.step(site), PartitionedProcedureStore.IDLE);
        }
        store.invoke(2, Stores.PUT_TWO, 0, 1, 6);
        due.is("step(0)", store.step(0), PartitionedProcedureStore.STALLED);
        due.is("step(2): site 1 is not there any more", store.step(2), PartitionedProcedureStore.STALLED);
        due.is("step(1)", store.step(1), PartitionedProcedureStore.RAN);
    }

    private static void snapshotUnderWayIsDropped() {
        PartitionedProcedureStore store = Stores.usual(2);
        Stores.runNow(store, Stores.PUT_ONE, 0, 1, 0);
        store.snapshot();
        store.flush();
        Stores.stepAll(store);
        due.is("crash", store.crash(), 2);
        due.is("count(4)", store.count(4), 0);
        due.is("count(3)", store.count(3), 0);
        due.is("scan", store.scan(0, 1), REFUSED);
        due.is("log", store.count(2), 1);
        due.is("row(0)", store.row(0), 1);
    }

    private static void oldPartsAreForgotten() {
        PartitionedProcedureStore store = Stores.usual(2);
        Stores.runNow(store, Stores.PUT_ONE, 0, 1, 0);
        Stores.runNow(store, Stores.PUT_ONE, 1, 1, 0);
        store.snapshot();
        store.step(0);
        store.scan(0, 5);
        store.crash();
        due.is("snapshot", store.snapshot(), 3);
        store.step(1);
        store.scan(1, 5);
        due.is("site 0 has yet to come", store.count(3), 0);
        due.is("scan(0, 5)", store.scan(0, 5), REFUSED);
        store.step(0);
        due.is("scan(0, 0)", store.scan(0, 0), 1);
        due.is("scan(0, 1)", store.scan(0, 1), 0);
        due.is("count(3)", store.count(3), 3);
    }

    private static void answersStay() {
        PartitionedProcedureStore store = Stores.usual(2);
        Stores.runNow(store, Stores.PUT_ONE, 0, 1, 0);
        Stores.runNow(store, Stores.PUT_ONE, 0, 2, 0);
        store.invoke(1, Stores.REMOVE_ONE, 1, 0, 0);
        Stores.stepAll(store);
        store.flush();
        store.invoke(2, Stores.PUT_ONE, 0, 3, 0);
        store.crash();
        due.is("answer(0)", store.answer(0), PartitionedProcedureStore.COMMITTED);
        due.is("output(0, 0)", store.output(0, 0), 2);
        due.is("answer(1)", store.answer(1), PartitionedProcedureStore.ABORTED);
        due.is("output(1, -1)", store.output(1, -1), 0);
        due.is("answer(2)", store.answer(2), LOST);
        due.is("answer(3)", store.answer(3), PartitionedProcedureStore.FREE);
        store.flush();
        due.is("LOST stays LOST", store.answer(2), LOST);
        due.is("until the next command", store.invoke(2, Stores.PUT_ONE, 0, 4, 0), 4);
        due.is("answer(2)", store.answer(2), PartitionedProcedureStore.PENDING);
    }

    private static void draftStays() {
        PartitionedProcedureStore store = Stores.usual(2);
        store.open(5, true);
        store.add(Stores.STORE, 0, 1, 0);
        store.crash();
        due.is("add after a crash", store.add(Stores.OUT, 1, 0, 0), 1);
        due.is("deploy after a crash", store.deploy(), PartitionedProcedureStore.DONE);
        Stores.runNow(store, 5, 2, 22, 0);
        due.is("replicated(2)", store.replicated(2), 22);
    }

    private static void crashTwice() {
        PartitionedProcedureStore store = Stores.usual(2);
        Stores.deploy(store, 4, true, Stores.s(Stores.LOAD, 3, 0), Stores.s(Stores.ADD, 3, 3, 1),
            Stores.s(Stores.STORE, 0, 3));
        for (int round = 1; round <= 4; round++) {
            Stores.runNow(store, 4, 0, 5, 0);
            due.is("crash", store.crash(), round);
            due.is("crash", store.crash(), round);
            due.is("replicated(0)", store.replicated(0), 5L * round);
            due.is("log", store.count(2), round);
        }
    }

    private static void rowsAndCellsOutOfRange() {
        PartitionedProcedureStore store = Stores.usual(2);
        Stores.runNow(store, Stores.PUT_TWO, 0, 31, 7);
        Stores.runNow(store, Stores.STORE_CELL, 0, 8, 0);
        Stores.runNow(store, Stores.STORE_CELL, 7, -8, 0);
        due.is("row(0)", store.row(0), 7);
        due.is("row(31)", store.row(31), 7);
        due.is("row(30)", store.row(30), Due.NONE);
        for (int key : new int[] {-1, 32, Integer.MIN_VALUE, Integer.MAX_VALUE}) {
            due.is("row(" + key + ")", store.row(key), Due.NONE);
        }
        due.is("replicated(0)", store.replicated(0), 8);
        due.is("replicated(7)", store.replicated(7), -8);
        for (int cell : new int[] {-1, 8, Integer.MIN_VALUE, Integer.MAX_VALUE}) {
            due.is("replicated(" + cell + ")", store.replicated(cell), Due.NONE);
        }
    }

    private static void rowsAreCounted() {
        for (int partitions = 1; partitions <= 4; partitions++) {
            PartitionedProcedureStore store = Stores.usual(partitions);
            int[] want = new int[partitions];
            for (int key = 0; key < 32; key++) {
                Stores.runNow(store, Stores.PUT_ONE, key, 0, 0);
                want[key % partitions]++;
                for (int site = 0; site < partitions; site++) {
                    due.is("rows(" + site + ") of " + partitions, store.rows(site), want[site]);
                }
            }
            Stores.runNow(store, Stores.REMOVE_ONE, 31, 0, 0);
            due.is("rows after a DELETE", store.rows(31 % partitions), want[31 % partitions] - 1);
        }
    }

    private static void countsOutOfRange() {
        PartitionedProcedureStore store = Stores.usual(2);
        for (int what : new int[] {-1, 6, 7, Integer.MIN_VALUE, Integer.MAX_VALUE}) {
            due.is("count(" + what + ")", store.count(what), REFUSED);
        }
        store.invoke(0, Stores.PUT_TWO, 0, 1, 2);
        store.invoke(1, Stores.PUT_TWO, 0, 1, 2);
        store.snapshot();
        store.flush();
        store.invoke(2, Stores.PUT_ONE, 0, 1, 2);
        store.step(0);
        int[] want = {4, 3, 3, 0, 3, 1};
        for (int what = 0; what < want.length; what++) {
            due.is("count(" + what + ")", store.count(what), want[what]);
        }
    }
}
