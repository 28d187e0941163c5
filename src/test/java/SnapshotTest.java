/** Promises 8 and 9: snapshot, scan; and what the snapshot holds, seen by a crash. */
public final class SnapshotTest {
    private static final int REFUSED = PartitionedProcedureStore.REFUSED;
    private static final int RAN = PartitionedProcedureStore.RAN;
    private static final int STALLED = PartitionedProcedureStore.STALLED;
    private static final int MARKED = PartitionedProcedureStore.MARKED;
    private static final int PENDING = PartitionedProcedureStore.PENDING;
    private static final int COMMITTED = PartitionedProcedureStore.COMMITTED;
    private static final Due due = new Due("SnapshotTest");

    public static void main(String[] args) {
        oneAtATime();
        emptyPartsAreCopied();
        scanRefuses();
        scanCopiesAtMostN();
        lastMarkCompletes();
        holdsTheRowsOfTheMark();
        holdsTheCellsOfTheMark();
        completionSettlesClients();
        completionKeepsAHigherDurable();
        completionDropsOnlyOlderCommands();
        marksDoNotStall();
        snapshotsFollowOneAnother();
        due.end();
    }

    private static PartitionedProcedureStore filled() {
        PartitionedProcedureStore store = Stores.usual(2);
        for (int key = 0; key < 5; key++) {
            Stores.runNow(store, Stores.PUT_ONE, key, 10 + key, 0);
        }
        return store;
    }

    private static void oneAtATime() {
        PartitionedProcedureStore store = filled();
        due.is("snapshot", store.snapshot(), 6);
        due.is("snapshot while one is under way", store.snapshot(), REFUSED);
        due.is("count(0)", store.count(0), 6);
        due.is("count(4)", store.count(4), 6);
        due.is("waiting", store.waiting(0), 1);
        due.is("a marker is not in the LOG", store.count(2), 5);
        store.step(0);
        store.step(1);
        store.scan(0, 3);
        due.is("snapshot while one part is not copied", store.snapshot(), REFUSED);
        store.scan(1, 2);
        due.is("count(4)", store.count(4), 0);
        due.is("count(3)", store.count(3), 6);
        due.is("snapshot after one", store.snapshot(), 7);
        due.is("scan before its mark", store.scan(0, 1), REFUSED);
    }

    private static void emptyPartsAreCopied() {
        PartitionedProcedureStore store = Stores.usual(3);
        due.is("snapshot", store.snapshot(), 1);
        due.is("step(2)", store.step(2), MARKED);
        due.is("scan of an empty part", store.scan(2, 4), 0);
        due.is("scan of nothing of an empty part", store.scan(2, 0), 0);
        due.is("step(0)", store.step(0), MARKED);
        due.is("count(3)", store.count(3), 0);
        due.is("step(1)", store.step(1), MARKED);
        due.is("count(3)", store.count(3), 1);
        due.is("DURABLE", store.count(1), 1);
        due.is("scan after it", store.scan(1, 1), REFUSED);
    }

    private static void scanRefuses() {
        PartitionedProcedureStore store = filled();
        due.is("scan without a snapshot", store.scan(0, 1), REFUSED);
        store.snapshot();
        due.is("scan before the mark", store.scan(0, 1), REFUSED);
        store.step(0);
        due.is("scan of another site", store.scan(1, 1), REFUSED);
        for (int site : new int[] {-1, 2, 3, Integer.MIN_VALUE, Integer.MAX_VALUE}) {
            due.is("scan(" + site + ")", store.scan(site, 1), REFUSED);
        }
        due.is("scan", store.scan(0, 0), 3);
        store.crash();
        due.is("scan after a crash", store.scan(0, 1), REFUSED);
        due.is("snapshot after a crash", store.snapshot(), 6);
        due.is("scan before the new mark", store.scan(0, 1), REFUSED);
    }

    private static void scanCopiesAtMostN() {
        PartitionedProcedureStore store = filled();
        store.snapshot();
        store.step(0);
        store.step(1);
        due.is("scan(0, 0)", store.scan(0, 0), 3);
        due.is("scan(0, -1)", store.scan(0, -1), 3);
        due.is("scan(0, min)", store.scan(0, Integer.MIN_VALUE), 3);
        due.is("scan(0, 2)", store.scan(0, 2), 1);
        due.is("scan(0, 1)", store.scan(0, 1), 0);
        due.is("scan(0, 1) again", store.scan(0, 1), 0);
        due.is("count(3)", store.count(3), 0);
        due.is("scan(1, max)", store.scan(1, Integer.MAX_VALUE), 0);
        due.is("count(3)", store.count(3), 6);
    }

    private static void lastMarkCompletes() {
        PartitionedProcedureStore store = Stores.usual(2);
        Stores.runNow(store, Stores.PUT_ONE, 0, 1, 0);
        store.snapshot();
        store.step(0);
        due.is("scan(0, 1)", store.scan(0, 1), 0);
        due.is("not COMPLETE before the last mark", store.count(3), 0);
        due.is("step(1)", store.step(1), MARKED);
        due.is("COMPLETE by the last mark", store.count(3), 2);
    }

    private static void holdsTheRowsOfTheMark() {
        PartitionedProcedureStore store = filled();
        store.invoke(0, Stores.PUT_ONE, 1, 77, 0);
        store.snapshot();
        store.invoke(1, Stores.PUT_ONE, 0, 88, 0);
        store.invoke(2, Stores.REMOVE_ONE, 2, 0, 0);
        store.invoke(3, Stores.PUT_ONE, 6, 99, 0);
        store.step(0);
        store.step(0);
        store.step(0);
        store.step(0);
        due.is("row(0)", store.row(0), 88);
        due.is("row(2)", store.row(2), Due.NONE);
        due.is("row(6)", store.row(6), 99);
        due.is("scan(0, 0): the rows of the mark", store.scan(0, 0), 3);
        due.is("step(1), the command before the marker", store.step(1), RAN);
        due.is("step(1)", store.step(1), MARKED);
        store.scan(1, 9);
        due.is("scan(0, 9)", store.scan(0, 9), 0);
        due.is("count(3)", store.count(3), 7);
        due.is("crash", store.crash(), 7);
        long[] want = {10, 77, 12, 13, 14, Due.NONE, Due.NONE};
        for (int key = 0; key < want.length; key++) {
            due.is("row(" + key + ")", store.row(key), want[key]);
        }
        due.is("rows(0)", store.rows(0), 3);
    }

    private static void holdsTheCellsOfTheMark() {
        PartitionedProcedureStore store = filled();
        Stores.runNow(store, Stores.STORE_CELL, 5, 50, 0);
        store.invoke(0, Stores.STORE_CELL, 6, 60, 0);
        store.snapshot();
        store.invoke(1, Stores.STORE_CELL, 5, 51, 0);
        Stores.stepAll(store);
        due.is("replicated(5)", store.replicated(5), 51);
        store.scan(0, 9);
        store.scan(1, 9);
        due.is("count(3)", store.count(3), 8);
        due.is("crash", store.crash(), 8);
        due.is("replicated(5)", store.replicated(5), 50);
        due.is("replicated(6)", store.replicated(6), 60);
    }

    private static void completionSettlesClients() {
        PartitionedProcedureStore store = Stores.usual(2);
        store.invoke(0, Stores.PUT_ONE, 0, 1, 0);
        store.invoke(1, Stores.REMOVE_ONE, 1, 0, 0);
        store.snapshot();
        store.invoke(2, Stores.PUT_ONE, 0, 2, 0);
        Stores.stepAll(store);
        due.is("answer(0)", store.answer(0), PENDING);
        due.is("scan(0, 1)", store.scan(0, 1), 0);
        due.is("answer(0)", store.answer(0), COMMITTED);
        due.is("output(0, 0)", store.output(0, 0), 1);
        due.is("answer(1)", store.answer(1), PartitionedProcedureStore.ABORTED);
        due.is("answer(2)", store.answer(2), PENDING);
        due.is("DURABLE", store.count(1), 3);
    }

    private static void completionKeepsAHigherDurable() {
        PartitionedProcedureStore store = filled();
        store.snapshot();
        store.invoke(0, Stores.PUT_ONE, 0, 1, 0);
        store.flush();
        Stores.stepAll(store);
        store.scan(0, 9);
        store.scan(1, 9);
        due.is("count(3)", store.count(3), 6);
        due.is("DURABLE", store.count(1), 7);
        due.is("crash", store.crash(), 7);
        due.is("row(0)", store.row(0), 1);
    }

    private static void completionDropsOnlyOlderCommands() {
        PartitionedProcedureStore store = filled();
        store.snapshot();
        store.invoke(0, Stores.PUT_ONE, 0, 1, 0);
        store.invoke(1, Stores.PUT_ONE, 1, 2, 0);
        due.is("log", store.count(2), 7);
        Stores.stepAll(store);
        due.is("log", store.count(2), 7);
        store.scan(0, 9);
        store.scan(1, 9);
        due.is("log", store.count(2), 2);
    }

    private static void marksDoNotStall() {
        PartitionedProcedureStore store = Stores.usual(2);
        store.invoke(0, Stores.PUT_TWO, 0, 1, 5);
        store.snapshot();
        store.invoke(1, Stores.PUT_TWO, 0, 1, 6);
        due.is("step(0)", store.step(0), STALLED);
        due.is("step(1)", store.step(1), RAN);
        due.is("step(1)", store.step(1), MARKED);
        due.is("count(5)", store.count(5), 0);
        due.is("step(1), at the next command", store.step(1), STALLED);
        due.is("count(5)", store.count(5), 3);
        due.is("waiting(1)", store.waiting(1), 1);
        due.is("step(0)", store.step(0), MARKED);
        due.is("step(0)", store.step(0), RAN);
        store.scan(0, 1);
        store.scan(1, 1);
        due.is("crash", store.crash(), 2);
        due.is("row(0)", store.row(0), 5);
        due.is("row(1)", store.row(1), 5);
    }

    private static void snapshotsFollowOneAnother() {
        PartitionedProcedureStore store = filled();
        for (int round = 0; round < 3; round++) {
            Stores.runNow(store, Stores.PUT_ONE, 0, 100 + round, 0);
            int marker = store.snapshot();
            due.is("scan before the mark of round " + round, store.scan(0, 9), REFUSED);
            Stores.stepAll(store);
            due.is("scan of round " + round, store.scan(0, 1), 2);
            store.scan(0, 9);
            store.scan(1, 9);
            due.is("count(3)", store.count(3), marker);
            due.is("log", store.count(2), 0);
            due.is("crash", store.crash(), marker);
            due.is("row(0)", store.row(0), 100 + round);
            due.is("row(3)", store.row(3), 13);
        }
    }
}
