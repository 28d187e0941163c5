/** Promises 8 and 9: snapshot, scan; and what a snapshot holds, seen by a crash (Terms: SNAPSHOT). */
public final class SnapshotTest {
    private static final int REFUSED = PartitionedProcedureStore.REFUSED;
    private static final int RAN = PartitionedProcedureStore.RAN;
    private static final int STALLED = PartitionedProcedureStore.STALLED;
    private static final int MARKED = PartitionedProcedureStore.MARKED;
    private static final int PENDING = PartitionedProcedureStore.PENDING;
    private static final int COMMITTED = PartitionedProcedureStore.COMMITTED;
    private static final int MIN = Integer.MIN_VALUE;
    private static final int MAX = Integer.MAX_VALUE;
    private static final Due due = new Due("SnapshotTest");

    public static void main(String[] args) {
        refusedWhileOneIsUnderWay();
        takenAfterOneIsComplete();
        takenAfterACrash();
        scanRefusesSitesOutOfRange();
        scanRefusesWithoutASnapshot();
        scanRefusesBeforeTheMark();
        scanOfLessThan1CopiesNothing();
        scanCopiesAtMostN();
        scanOfTheLargestPart();
        scanOfAnEmptyPart();
        emptyPartsAreCopied();
        lastMarkCompletes();
        lastRowCompletes();
        partIsOfTheTimeOfTheMark();
        writesBeforeTheCopyAreNotInIt();
        commandsBelowTheMarkerAreInIt();
        cellsBelowTheMarkerAreInIt();
        marksDoNotStall();
        completionRaisesALowerDurable();
        completionKeepsAnEqualDurable();
        completionKeepsAHigherDurable();
        completionSettlesClients();
        completionDropsOnlyOlderCommands();
        unfinishedOneLeavesTheLastComplete();
        snapshotsFollowOneAnother();
        due.end();
    }

    /** Rows of keys 0, 2, 4 at site 0 and of keys 1, 3 at site 1, by commands 1 to 5: a key holds 10 more than itself. */
    private static PartitionedProcedureStore filled() {
        PartitionedProcedureStore store = Stores.usual(2);
        for (int key = 0; key < 5; key++) {
            Stores.runNow(store, Stores.PUT_ONE, key, 10 + key, 0);
        }
        return store;
    }

    private static void complete(PartitionedProcedureStore store) {
        Stores.stepAll(store);
        store.scan(0, 32);
        store.scan(1, 32);
    }

    private static void refusedWhileOneIsUnderWay() {
        due.sentence("Begins a snapshot by a marker. One is under way: REFUSED.");
        PartitionedProcedureStore store = filled();
        due.is("snapshot", store.snapshot(), 6);
        due.is("snapshot, no site has come", store.snapshot(), REFUSED);
        due.is("count(0)", store.count(0), 6);
        due.is("count(4)", store.count(4), 6);
        due.is("waiting(0)", store.waiting(0), 1);
        due.is("a marker is not in the LOG", store.count(2), 5);
        store.step(0);
        due.is("snapshot, one site has come", store.snapshot(), REFUSED);
        store.step(1);
        due.is("snapshot, all sites have come", store.snapshot(), REFUSED);
        store.scan(0, 3);
        due.is("snapshot, one part is copied", store.snapshot(), REFUSED);
        store.scan(1, 1);
        due.is("snapshot, one row is left", store.snapshot(), REFUSED);
        store.scan(1, 1);
        due.is("count(3), it was the first", store.count(3), 6);
    }

    private static void takenAfterOneIsComplete() {
        due.sentence("One is under way: REFUSED. Else the marker's number.");
        PartitionedProcedureStore store = filled();
        store.snapshot();
        complete(store);
        due.is("count(4)", store.count(4), 0);
        due.is("snapshot", store.snapshot(), 7);
        due.is("count(4)", store.count(4), 7);
        due.is("count(3)", store.count(3), 6);
        due.is("waiting(0)", store.waiting(0), 1);
        due.is("waiting(1)", store.waiting(1), 1);
    }

    private static void takenAfterACrash() {
        due.sentence("One is under way: REFUSED. Else the marker's number.");
        PartitionedProcedureStore store = filled();
        store.snapshot();
        store.step(0);
        store.crash();
        due.is("snapshot", store.snapshot(), 6);
        due.is("count(4)", store.count(4), 6);
        complete(store);
        due.is("count(3)", store.count(3), 6);
    }

    private static void scanRefusesSitesOutOfRange() {
        due.sentence("Site out of range, no snapshot under way, or the site has not come to its marker: REFUSED.");
        for (int partitions = 1; partitions <= 4; partitions++) {
            PartitionedProcedureStore store = Stores.usual(partitions);
            Stores.runNow(store, Stores.PUT_ONE, 0, 1, 0);
            store.snapshot();
            Stores.stepAll(store);
            for (int site : new int[] {MIN, -1, partitions, partitions + 1, 5, MAX}) {
                due.is("scan(" + site + ", 1) of " + partitions, store.scan(site, 1), REFUSED);
            }
            due.is("scan(0, 0): the row is left", store.scan(0, 0), 1);
            for (int site = 1; site < partitions; site++) {
                due.is("scan(" + site + ", 0) of " + partitions, store.scan(site, 0), 0);
            }
        }
    }

    private static void scanRefusesWithoutASnapshot() {
        due.sentence("Site out of range, no snapshot under way, or the site has not come to its marker: REFUSED.");
        PartitionedProcedureStore store = filled();
        due.is("scan, none was begun", store.scan(0, 1), REFUSED);
        store.snapshot();
        Stores.stepAll(store);
        store.crash();
        due.is("scan after a crash", store.scan(0, 1), REFUSED);
        store.snapshot();
        complete(store);
        due.is("count(3)", store.count(3), 6);
        due.is("scan, it is COMPLETE", store.scan(0, 1), REFUSED);
        due.is("scan of nothing, it is COMPLETE", store.scan(1, 0), REFUSED);
    }

    private static void scanRefusesBeforeTheMark() {
        due.sentence("Site out of range, no snapshot under way, or the site has not come to its marker: REFUSED.");
        PartitionedProcedureStore store = filled();
        store.invoke(0, Stores.PUT_ONE, 0, 1, 0);
        store.snapshot();
        due.is("scan(0, 1), a command is before the marker", store.scan(0, 1), REFUSED);
        store.step(0);
        due.is("scan(0, 1), the marker is next", store.scan(0, 1), REFUSED);
        due.is("scan(0, 0), the marker is next", store.scan(0, 0), REFUSED);
        store.step(0);
        due.is("scan(1, 1), the other site has come", store.scan(1, 1), REFUSED);
        due.is("scan(0, 1)", store.scan(0, 1), 2);
        complete(store);
        store.snapshot();
        due.is("scan(0, 1) before the next marker", store.scan(0, 1), REFUSED);
        due.is("scan(1, 1) before the next marker", store.scan(1, 1), REFUSED);
    }

    private static void scanOfLessThan1CopiesNothing() {
        due.sentence("Copies at most n more rows of the site's part of the snapshot under way (n below 0 counts as 0).");
        PartitionedProcedureStore store = filled();
        store.snapshot();
        Stores.stepAll(store);
        for (int n : new int[] {0, -1, -2, MIN, MIN + 1}) {
            due.is("scan(0, " + n + ")", store.scan(0, n), 3);
        }
        due.is("scan(0, 2)", store.scan(0, 2), 1);
        for (int n : new int[] {0, -1, -2, MIN, MIN + 1}) {
            due.is("scan(0, " + n + ")", store.scan(0, n), 1);
        }
        store.scan(1, 9);
        due.is("scan(0, 0), the last row of all is left", store.scan(0, 0), 1);
        due.is("scan(0, -1), the last row of all is left", store.scan(0, -1), 1);
        due.is("count(3)", store.count(3), 0);
    }

    private static void scanCopiesAtMostN() {
        due.sentence("Copies at most n more rows of the site's part of the snapshot under way (n below 0 counts as 0).");
        int[][] runs = {{1, 2}, {2, 1}, {3, 0}, {4, 0}, {32, 0}, {MAX, 0}};
        for (int[] run : runs) {
            PartitionedProcedureStore store = filled();
            store.snapshot();
            Stores.stepAll(store);
            due.is("scan(0, " + run[0] + ")", store.scan(0, run[0]), run[1]);
            due.is("scan(0, 0)", store.scan(0, 0), run[1]);
            due.is("scan(1, 0), the other part", store.scan(1, 0), 2);
        }
    }

    private static void scanOfTheLargestPart() {
        due.sentence("Else how many rows of the part are left.");
        PartitionedProcedureStore store = Stores.usual(1);
        for (int key = 0; key < 32; key++) {
            Stores.runNow(store, Stores.PUT_ONE, key, key, 0);
        }
        store.snapshot();
        store.step(0);
        due.is("scan(0, 0)", store.scan(0, 0), 32);
        for (int left = 31; left > 0; left--) {
            due.is("scan(0, 1)", store.scan(0, 1), left);
        }
        due.is("count(4)", store.count(4), 33);
        due.is("scan(0, 1)", store.scan(0, 1), 0);
        due.is("count(3)", store.count(3), 33);
    }

    private static void scanOfAnEmptyPart() {
        due.sentence("Else how many rows of the part are left.");
        PartitionedProcedureStore store = Stores.usual(2);
        Stores.runNow(store, Stores.PUT_ONE, 1, 1, 0);
        store.snapshot();
        Stores.stepAll(store);
        for (int n : new int[] {0, 1, -1, MIN, MAX}) {
            due.is("scan(0, " + n + ") of a part without rows", store.scan(0, n), 0);
        }
        due.is("count(4)", store.count(4), 2);
        store.invoke(0, Stores.PUT_ONE, 0, 1, 0);
        store.step(0);
        due.is("scan(0, 1), a row was written after the mark", store.scan(0, 0), 0);
        due.is("scan(1, 2)", store.scan(1, 2), 0);
        due.is("count(3)", store.count(3), 2);
    }

    private static void emptyPartsAreCopied() {
        due.sentence("The snapshot is COMPLETE as soon as all sites have come to the marker and all parts are copied (a part without rows is)");
        for (int partitions = 1; partitions <= 4; partitions++) {
            PartitionedProcedureStore store = Stores.usual(partitions);
            due.is("snapshot", store.snapshot(), 1);
            for (int site = partitions - 1; site >= 0; site--) {
                due.is("not COMPLETE before the last mark", store.count(3), 0);
                due.is("under way before the last mark", store.count(4), 1);
                due.is("step(" + site + ")", store.step(site), MARKED);
            }
            due.is("COMPLETE by the last mark", store.count(3), 1);
            due.is("not under way any more", store.count(4), 0);
            due.is("DURABLE", store.count(1), 1);
        }
    }

    private static void lastMarkCompletes() {
        due.sentence("The snapshot is COMPLETE as soon as all sites have come to the marker and all parts are copied (a part without rows is)");
        PartitionedProcedureStore store = Stores.usual(2);
        Stores.runNow(store, Stores.PUT_ONE, 0, 1, 0);
        store.snapshot();
        store.step(0);
        due.is("scan(0, 1)", store.scan(0, 1), 0);
        due.is("not COMPLETE before the last mark", store.count(3), 0);
        due.is("step(1)", store.step(1), MARKED);
        due.is("COMPLETE by the last mark", store.count(3), 2);
    }

    private static void lastRowCompletes() {
        due.sentence("the snapshot is then not under way any more.");
        PartitionedProcedureStore store = filled();
        store.snapshot();
        store.step(1);
        due.is("scan(1, 2)", store.scan(1, 2), 0);
        store.step(0);
        due.is("not COMPLETE by the last mark, rows are left", store.count(3), 0);
        due.is("scan(0, 2)", store.scan(0, 2), 1);
        due.is("not COMPLETE, a row is left", store.count(3), 0);
        due.is("under way", store.count(4), 6);
        due.is("scan(0, 1)", store.scan(0, 1), 0);
        due.is("COMPLETE by the last row", store.count(3), 6);
        due.is("not under way", store.count(4), 0);
    }

    private static void partIsOfTheTimeOfTheMark() {
        due.sentence("When a site comes to the marker, its part is: the rows of its partition at that time");
        PartitionedProcedureStore store = filled();
        store.invoke(0, Stores.PUT_ONE, 6, 16, 0);
        store.snapshot();
        store.invoke(1, Stores.REMOVE_ONE, 2, 0, 0);
        store.invoke(2, Stores.REMOVE_ONE, 4, 0, 0);
        store.invoke(3, Stores.PUT_ONE, 8, 18, 0);
        store.step(0);
        store.step(0);
        due.is("scan(0, 0), the command before the marker is done", store.scan(0, 0), 4);
        store.step(0);
        due.is("scan(0, 0), a row is deleted", store.scan(0, 0), 4);
        due.is("scan(0, 1)", store.scan(0, 1), 3);
        store.step(0);
        due.is("scan(0, 0), another is deleted", store.scan(0, 0), 3);
        store.step(0);
        due.is("scan(0, 0), one is written", store.scan(0, 0), 3);
        due.is("rows(0)", store.rows(0), 3);
        due.is("scan(0, 3)", store.scan(0, 3), 0);
    }

    private static void writesBeforeTheCopyAreNotInIt() {
        due.sentence("each with the value at that time (whatever is written before it is copied)");
        PartitionedProcedureStore store = filled();
        store.snapshot();
        store.invoke(1, Stores.PUT_ONE, 0, 88, 0);
        store.invoke(2, Stores.REMOVE_ONE, 2, 0, 0);
        store.invoke(3, Stores.PUT_ONE, 6, 99, 0);
        store.step(0);
        store.step(0);
        store.step(0);
        store.step(0);
        due.is("row(0)", store.row(0), 88);
        due.is("row(2)", store.row(2), Due.NONE);
        due.is("row(6)", store.row(6), 99);
        complete(store);
        due.is("count(3)", store.count(3), 6);
        due.is("crash", store.crash(), 6);
        long[] want = {10, 11, 12, 13, 14, Due.NONE, Due.NONE};
        for (int key = 0; key < want.length; key++) {
            due.is("row(" + key + ")", store.row(key), want[key]);
        }
        due.is("rows(0)", store.rows(0), 3);
    }

    private static void commandsBelowTheMarkerAreInIt() {
        due.sentence("What it holds is the rows, and the REPLICATED cells, as all commands with numbers below the marker leave them.");
        PartitionedProcedureStore store = filled();
        store.invoke(0, Stores.PUT_ONE, 1, 77, 0);
        store.snapshot();
        store.invoke(1, Stores.PUT_ONE, 1, 78, 0);
        due.is("step(0)", store.step(0), MARKED);
        due.is("scan(0, 9), copied before the command is done", store.scan(0, 9), 0);
        due.is("step(1), the command before the marker", store.step(1), RAN);
        due.is("step(1)", store.step(1), MARKED);
        due.is("step(1), the command after the marker", store.step(1), RAN);
        due.is("scan(1, 9)", store.scan(1, 9), 0);
        due.is("crash", store.crash(), 7);
        due.is("row(1)", store.row(1), 77);
        due.is("row(3)", store.row(3), 13);
        due.is("row(0)", store.row(0), 10);
    }

    private static void cellsBelowTheMarkerAreInIt() {
        due.sentence("What it holds is the rows, and the REPLICATED cells, as all commands with numbers below the marker leave them.");
        PartitionedProcedureStore store = filled();
        Stores.runNow(store, Stores.STORE_CELL, 5, 50, 0);
        store.invoke(0, Stores.STORE_CELL, 6, 60, 0);
        store.snapshot();
        store.invoke(1, Stores.STORE_CELL, 5, 51, 0);
        store.invoke(2, Stores.STORE_CELL, 7, 70, 0);
        Stores.stepAll(store);
        due.is("replicated(5)", store.replicated(5), 51);
        due.is("replicated(7)", store.replicated(7), 70);
        complete(store);
        due.is("count(3)", store.count(3), 8);
        due.is("crash", store.crash(), 8);
        due.is("replicated(5)", store.replicated(5), 50);
        due.is("replicated(6)", store.replicated(6), 60);
        due.is("replicated(7)", store.replicated(7), 0);
    }

    private static void marksDoNotStall() {
        due.sentence("it passes on at once, not STALLED.");
        PartitionedProcedureStore store = Stores.usual(2);
        store.invoke(0, Stores.PUT_TWO, 0, 1, 5);
        store.snapshot();
        store.invoke(1, Stores.PUT_TWO, 0, 1, 6);
        due.is("step(0)", store.step(0), STALLED);
        due.is("step(1)", store.step(1), RAN);
        due.is("step(1)", store.step(1), MARKED);
        due.is("count(5)", store.count(5), 0);
        due.is("waiting(1)", store.waiting(1), 1);
        due.is("step(1), at the next command", store.step(1), STALLED);
        due.is("count(5)", store.count(5), 3);
        due.is("step(0)", store.step(0), MARKED);
        due.is("step(0)", store.step(0), RAN);
        store.scan(0, 1);
        store.scan(1, 1);
        due.is("crash", store.crash(), 2);
        due.is("row(0)", store.row(0), 5);
        due.is("row(1)", store.row(1), 5);
    }

    private static void completionRaisesALowerDurable() {
        due.sentence("When it is COMPLETE, DURABLE becomes the marker's number if it was less.");
        PartitionedProcedureStore store = filled();
        store.snapshot();
        store.invoke(0, Stores.PUT_ONE, 0, 1, 0);
        due.is("DURABLE, the marker's number less 1", store.count(1), 5);
        complete(store);
        due.is("DURABLE", store.count(1), 6);
        due.is("crash", store.crash(), 6);
        due.is("row(0)", store.row(0), 10);
    }

    private static void completionKeepsAnEqualDurable() {
        due.sentence("When it is COMPLETE, DURABLE becomes the marker's number if it was less.");
        PartitionedProcedureStore store = filled();
        store.snapshot();
        due.is("flush", store.flush(), 6);
        complete(store);
        due.is("count(3)", store.count(3), 6);
        due.is("DURABLE", store.count(1), 6);
    }

    private static void completionKeepsAHigherDurable() {
        due.sentence("When it is COMPLETE, DURABLE becomes the marker's number if it was less.");
        PartitionedProcedureStore store = filled();
        store.snapshot();
        store.invoke(0, Stores.PUT_ONE, 0, 1, 0);
        due.is("flush", store.flush(), 7);
        complete(store);
        due.is("count(3)", store.count(3), 6);
        due.is("DURABLE", store.count(1), 7);
        due.is("crash", store.crash(), 7);
        due.is("row(0)", store.row(0), 1);
    }

    private static void completionSettlesClients() {
        due.sentence("It is PENDING from its command on until that is done and its number is at most DURABLE");
        PartitionedProcedureStore store = Stores.usual(2);
        store.invoke(0, Stores.PUT_ONE, 0, 1, 0);
        store.invoke(1, Stores.REMOVE_ONE, 1, 0, 0);
        store.snapshot();
        store.invoke(2, Stores.PUT_ONE, 0, 2, 0);
        Stores.stepAll(store);
        due.is("answer(0)", store.answer(0), PENDING);
        due.is("scan(0, 1)", store.scan(0, 1), 0);
        due.is("answer(0)", store.answer(0), COMMITTED);
        due.is("output(0, 0)", store.output(0, 0), 1);
        due.is("answer(1)", store.answer(1), PartitionedProcedureStore.ABORTED);
        due.is("answer(2)", store.answer(2), PENDING);
        due.is("DURABLE", store.count(1), 3);
        PartitionedProcedureStore marked = Stores.usual(2);
        marked.invoke(0, Stores.REMOVE_ONE, 0, 0, 0);
        marked.snapshot();
        marked.step(0);
        marked.step(0);
        due.is("answer(0) before the last mark", marked.answer(0), PENDING);
        marked.step(1);
        due.is("answer(0) after the last mark", marked.answer(0), PartitionedProcedureStore.ABORTED);
    }

    private static void completionDropsOnlyOlderCommands() {
        due.sentence("It holds the commands (not the markers) with numbers above that of the last COMPLETE snapshot, at most 48.");
        PartitionedProcedureStore store = filled();
        store.snapshot();
        store.invoke(0, Stores.PUT_ONE, 0, 1, 0);
        store.invoke(1, Stores.PUT_ONE, 1, 2, 0);
        due.is("log", store.count(2), 7);
        complete(store);
        due.is("log", store.count(2), 2);
        store.flush();
        store.crash();
        due.is("log", store.count(2), 2);
        due.is("row(0)", store.row(0), 1);
        due.is("row(1)", store.row(1), 2);
        due.is("row(2)", store.row(2), 12);
    }

    private static void unfinishedOneLeavesTheLastComplete() {
        due.sentence("rows and REPLICATED cells become what the last COMPLETE snapshot holds (absent and 0 if there was none)");
        PartitionedProcedureStore store = filled();
        store.snapshot();
        complete(store);
        store.invoke(0, Stores.PUT_ONE, 0, 20, 0);
        store.invoke(1, Stores.STORE_CELL, 1, 21, 0);
        store.snapshot();
        Stores.stepAll(store);
        store.scan(0, 3);
        due.is("count(3)", store.count(3), 6);
        due.is("crash", store.crash(), 6);
        due.is("row(0)", store.row(0), 10);
        due.is("replicated(1)", store.replicated(1), 0);
        due.is("count(3)", store.count(3), 6);
    }

    private static void snapshotsFollowOneAnother() {
        due.sentence("rows and REPLICATED cells become what the last COMPLETE snapshot holds (absent and 0 if there was none)");
        PartitionedProcedureStore store = filled();
        for (int round = 0; round < 3; round++) {
            Stores.runNow(store, Stores.PUT_ONE, 0, 100 + round, 0);
            int marker = store.snapshot();
            due.is("scan before the mark of round " + round, store.scan(0, 9), REFUSED);
            Stores.stepAll(store);
            due.is("scan of round " + round, store.scan(0, 1), 2);
            complete(store);
            due.is("count(3)", store.count(3), marker);
            due.is("log", store.count(2), 0);
            due.is("crash", store.crash(), marker);
            due.is("row(0)", store.row(0), 100 + round);
            due.is("row(3)", store.row(3), 13);
        }
        Stores.runNow(store, Stores.REMOVE_ONE, 3, 0, 0);
        store.snapshot();
        complete(store);
        store.crash();
        due.is("row(3), which an older snapshot has", store.row(3), Due.NONE);
    }
}
