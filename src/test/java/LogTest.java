/** What the LOG holds and when it is full (Terms: LOG; promises 5 and 17). */
public final class LogTest {
    private static final int REFUSED = PartitionedProcedureStore.REFUSED;
    private static final int FULL = PartitionedProcedureStore.FULL;
    private static final int FREE = PartitionedProcedureStore.FREE;
    private static final int PENDING = PartitionedProcedureStore.PENDING;
    private static final int COMMITTED = PartitionedProcedureStore.COMMITTED;
    private static final Due due = new Due("LogTest");

    public static void main(String[] args) {
        logTakes48();
        fullLeavesAllAsItWas();
        refusedBeforeFull();
        everyKindOfCommandCounts();
        markersDoNotCount();
        snapshotIsTakenWhileFull();
        unfinishedSnapshotDropsNothing();
        completeSnapshotLeavesTheLaterOnes();
        crashLeavesTheDurableOnes();
        due.end();
    }

    /** Sends, does and makes durable so many commands of client 0; each writes its place among them to the row of key 1. */
    private static PartitionedProcedureStore logged(int commands) {
        PartitionedProcedureStore store = Stores.usual(2);
        log(store, commands);
        return store;
    }

    private static void log(PartitionedProcedureStore store, int commands) {
        for (int i = 1; i <= commands; i++) {
            due.holds("a command is taken into the log", store.invoke(0, Stores.PUT_ONE, 1, i, 0) > 0);
            store.step(1);
            store.flush();
        }
    }

    private static int put(PartitionedProcedureStore store, int client) {
        return store.invoke(client, Stores.PUT_ONE, 1, 99, 0);
    }

    private static void logTakes48() {
        due.sentence("The LOG holds 48: FULL.");
        PartitionedProcedureStore store = Stores.usual(2);
        for (int i = 1; i <= 48; i++) {
            due.is("invoke", put(store, 0), i);
            due.is("log", store.count(2), i);
            store.step(1);
            store.flush();
        }
        due.is("a 49th", put(store, 0), FULL);
        due.is("a 49th of another client", put(store, 3), FULL);
        due.is("a 49th, MULTI", store.invoke(0, Stores.PUT_TWO, 0, 1, 5), FULL);
        due.is("log", store.count(2), 48);
    }

    private static void fullLeavesAllAsItWas() {
        due.sentence("Else the command joins the LOG and WAITS, the client is PENDING; answers its number.");
        PartitionedProcedureStore store = logged(48);
        due.is("a 49th", put(store, 0), FULL);
        due.is("a 49th of a client that sent nothing", put(store, 1), FULL);
        due.is("answer(0)", store.answer(0), COMMITTED);
        due.is("its output", store.output(0, 0), 48);
        due.is("answer(1)", store.answer(1), FREE);
        due.is("count(0)", store.count(0), 48);
        due.is("waiting(1)", store.waiting(1), 0);
        due.is("step(1)", store.step(1), PartitionedProcedureStore.IDLE);
        due.is("flush", store.flush(), 48);
        due.is("row(1)", store.row(1), 48);
    }

    private static void refusedBeforeFull() {
        due.sentence("Client out of 0 .. 3 or PENDING, or procedure out of 0 .. 5 or not deployed: REFUSED. The LOG holds 48: FULL.");
        PartitionedProcedureStore store = logged(47);
        due.is("a 48th", put(store, 1), 48);
        due.is("a PENDING client", put(store, 1), REFUSED);
        due.is("a client out of range", put(store, 4), REFUSED);
        due.is("a client out of range", put(store, -1), REFUSED);
        due.is("a procedure that is not deployed", store.invoke(2, 5, 1, 1, 0), REFUSED);
        due.is("a procedure out of range", store.invoke(2, 6, 1, 1, 0), REFUSED);
        due.is("a procedure out of range", store.invoke(2, -1, 1, 1, 0), REFUSED);
        due.is("all fine", put(store, 2), FULL);
    }

    private static void everyKindOfCommandCounts() {
        due.sentence("It holds the commands (not the markers) with numbers above that of the last COMPLETE snapshot, at most 48.");
        PartitionedProcedureStore store = logged(44);
        store.invoke(0, Stores.REMOVE_ONE, 3, 0, 0);
        store.invoke(1, Stores.PUT_TWO, 0, 1, 5);
        Stores.stepAll(store);
        due.is("an aborted one and a MULTI one count once each", store.count(2), 46);
        store.flush();
        due.is("the 47th", put(store, 0), 47);
        due.is("the 48th", store.invoke(1, Stores.STORE_CELL, 0, 0, 0), 48);
        due.is("those that wait count", store.count(2), 48);
        due.is("the 49th", put(store, 2), FULL);
        Stores.stepAll(store);
        due.is("those that are done count", store.count(2), 48);
        due.is("the 49th", put(store, 2), FULL);
    }

    private static void markersDoNotCount() {
        due.sentence("It holds the commands (not the markers) with numbers above that of the last COMPLETE snapshot, at most 48.");
        PartitionedProcedureStore store = logged(46);
        due.is("snapshot", store.snapshot(), 47);
        due.is("log", store.count(2), 46);
        due.is("the 47th command", put(store, 0), 48);
        due.is("the 48th command", put(store, 1), 49);
        due.is("log", store.count(2), 48);
        due.is("the 49th command", put(store, 2), FULL);
        due.is("the next number", store.count(0), 49);
    }

    private static void snapshotIsTakenWhileFull() {
        due.sentence("Begins a snapshot by a marker.");
        PartitionedProcedureStore store = logged(48);
        due.is("snapshot", store.snapshot(), 49);
        Stores.stepAll(store);
        due.is("scan", store.scan(1, 1), 0);
        due.is("log", store.count(2), 0);
        due.is("invoke", put(store, 0), 50);
        due.is("log", store.count(2), 1);
    }

    private static void unfinishedSnapshotDropsNothing() {
        due.sentence("It holds the commands (not the markers) with numbers above that of the last COMPLETE snapshot, at most 48.");
        PartitionedProcedureStore store = logged(48);
        store.snapshot();
        due.is("log, no site has come", store.count(2), 48);
        Stores.stepAll(store);
        due.is("log, a row is left", store.count(2), 48);
        due.is("invoke", put(store, 0), FULL);
        store.crash();
        due.is("log, the snapshot is dropped", store.count(2), 48);
        due.is("invoke", put(store, 0), FULL);
    }

    private static void completeSnapshotLeavesTheLaterOnes() {
        due.sentence("It holds the commands (not the markers) with numbers above that of the last COMPLETE snapshot, at most 48.");
        PartitionedProcedureStore store = logged(45);
        put(store, 0);
        due.is("snapshot", store.snapshot(), 47);
        put(store, 1);
        put(store, 2);
        due.is("log", store.count(2), 48);
        Stores.stepAll(store);
        due.is("answer of the one after the marker", store.answer(1), PENDING);
        due.is("scan", store.scan(1, 1), 0);
        due.is("log", store.count(2), 2);
        due.is("answer of the one before the marker", store.answer(0), COMMITTED);
        log(store, 46);
        due.is("log", store.count(2), 48);
        due.is("a 49th", put(store, 0), FULL);
    }

    private static void crashLeavesTheDurableOnes() {
        due.sentence("those above DURABLE are gone from the LOG, and their numbers and those of markers above DURABLE are given again.");
        PartitionedProcedureStore store = logged(45);
        put(store, 0);
        put(store, 1);
        put(store, 2);
        due.is("a 49th", put(store, 3), FULL);
        due.is("crash", store.crash(), 45);
        due.is("log", store.count(2), 45);
        due.is("the 46th", put(store, 0), 46);
        due.is("the 47th", put(store, 1), 47);
        due.is("the 48th", put(store, 2), 48);
        due.is("a 49th", put(store, 3), FULL);
        store.flush();
        due.is("crash", store.crash(), 48);
        due.is("log", store.count(2), 48);
        due.is("a 49th", put(store, 3), FULL);
        due.is("row(1)", store.row(1), 99);
    }
}
