/** Promise 10: crash. */
public final class CrashTest {
    private static final int REFUSED = PartitionedProcedureStore.REFUSED;
    private static final int FULL = PartitionedProcedureStore.FULL;
    private static final int IDLE = PartitionedProcedureStore.IDLE;
    private static final int RAN = PartitionedProcedureStore.RAN;
    private static final int STALLED = PartitionedProcedureStore.STALLED;
    private static final int FREE = PartitionedProcedureStore.FREE;
    private static final int PENDING = PartitionedProcedureStore.PENDING;
    private static final int COMMITTED = PartitionedProcedureStore.COMMITTED;
    private static final int ABORTED = PartitionedProcedureStore.ABORTED;
    private static final int LOST = PartitionedProcedureStore.LOST;
    private static final Due due = new Due("CrashTest");

    public static void main(String[] args) {
        crashOfANewObject();
        withoutASnapshotAllIsAbsentAnd0();
        restoresTheSnapshot();
        commandAtDurableSurvives();
        durableCommandsAreDone();
        durableCommandsAreDoneInOrder();
        durableCommandsAboveTheMarkerAreDone();
        durableAbortsAreAborts();
        othersAreGone();
        numbersAreGivenAgain();
        durableNumbersAreNotGivenAgain();
        nothingWaits();
        noSiteIsStalled();
        snapshotUnderWayIsDropped();
        oldPartsAreForgotten();
        draftStays();
        noDraftStaysNone();
        pendingClientsAreLost();
        otherClientsStay();
        lostUntilTheNextCommand();
        crashAnswersDurable();
        crashTwice();
        due.end();
    }

    private static void crashOfANewObject() {
        due.sentence("Answers DURABLE.");
        PartitionedProcedureStore store = new PartitionedProcedureStore(2);
        due.is("crash", store.crash(), 0);
        for (int what = 0; what < 6; what++) {
            due.is("count(" + what + ")", store.count(what), 0);
        }
        for (int client = 0; client < 4; client++) {
            due.is("answer(" + client + ")", store.answer(client), FREE);
        }
        due.is("row(0)", store.row(0), Due.NONE);
    }

    private static void withoutASnapshotAllIsAbsentAnd0() {
        due.sentence("rows and REPLICATED cells become what the last COMPLETE snapshot holds (absent and 0 if there was none)");
        PartitionedProcedureStore store = Stores.usual(2);
        store.invoke(0, Stores.PUT_ONE, 0, 1, 0);
        store.invoke(1, Stores.PUT_TWO, 31, 30, 1);
        store.invoke(2, Stores.STORE_CELL, 7, 1, 0);
        Stores.stepAll(store);
        due.is("row(31) before", store.row(31), 1);
        due.is("replicated(7) before", store.replicated(7), 1);
        due.is("crash", store.crash(), 0);
        for (int key = 0; key < 32; key++) {
            due.is("row(" + key + ")", store.row(key), Due.NONE);
        }
        for (int cell = 0; cell < 8; cell++) {
            due.is("replicated(" + cell + ")", store.replicated(cell), 0);
        }
        due.is("rows(0)", store.rows(0), 0);
        due.is("procedures stay", store.invoke(0, Stores.PUT_ONE, 0, 2, 0), 1);
    }

    private static void restoresTheSnapshot() {
        due.sentence("rows and REPLICATED cells become what the last COMPLETE snapshot holds (absent and 0 if there was none)");
        PartitionedProcedureStore store = Stores.usual(2);
        Stores.runNow(store, Stores.PUT_TWO, 0, 31, 5);
        Stores.runNow(store, Stores.STORE_CELL, 3, 33, 0);
        store.snapshot();
        Stores.stepAll(store);
        store.scan(0, 9);
        store.scan(1, 9);
        store.invoke(0, Stores.REMOVE_ONE, 0, 0, 0);
        store.invoke(1, Stores.PUT_ONE, 2, 9, 0);
        store.invoke(2, Stores.STORE_CELL, 3, 34, 0);
        Stores.stepAll(store);
        due.is("row(0) before", store.row(0), Due.NONE);
        due.is("crash", store.crash(), 3);
        due.is("row(0), deleted since", store.row(0), 5);
        due.is("row(31)", store.row(31), 5);
        due.is("row(2), written since", store.row(2), Due.NONE);
        due.is("replicated(3), written since", store.replicated(3), 33);
        due.is("log", store.count(2), 0);
        due.is("count(3)", store.count(3), 3);
    }

    private static void commandAtDurableSurvives() {
        due.sentence("it says that commands up to it survive a crash.");
        PartitionedProcedureStore store = Stores.usual(2);
        store.invoke(0, Stores.PUT_ONE, 0, 1, 0);
        store.invoke(1, Stores.PUT_ONE, 2, 2, 0);
        due.is("flush", store.flush(), 2);
        store.invoke(2, Stores.PUT_ONE, 4, 3, 0);
        Stores.stepAll(store);
        due.is("crash", store.crash(), 2);
        due.is("row(0), of a number below DURABLE", store.row(0), 1);
        due.is("row(2), of the number DURABLE", store.row(2), 2);
        due.is("row(4), of the number DURABLE + 1", store.row(4), Due.NONE);
        due.is("log", store.count(2), 2);
    }

    private static void durableCommandsAreDone() {
        due.sentence("and then the commands of the LOG with numbers up to DURABLE are done one after another in the order of numbers");
        PartitionedProcedureStore store = Stores.usual(2);
        store.invoke(0, Stores.PUT_ONE, 0, 1, 0);
        store.invoke(1, Stores.PUT_TWO, 1, 2, 3);
        store.invoke(2, Stores.STORE_CELL, 4, 5, 0);
        store.flush();
        store.step(0);
        store.step(0);
        due.is("row(1) before", store.row(1), Due.NONE);
        due.is("crash", store.crash(), 3);
        due.is("row(0), of one that was done", store.row(0), 1);
        due.is("row(1), of one that a site was STALLED at", store.row(1), 3);
        due.is("row(2), of one that a site was STALLED at", store.row(2), 3);
        due.is("replicated(4), of one that no site had come to", store.replicated(4), 5);
        due.is("log", store.count(2), 3);
    }

    private static void durableCommandsAreDoneInOrder() {
        due.sentence("and then the commands of the LOG with numbers up to DURABLE are done one after another in the order of numbers");
        PartitionedProcedureStore store = Stores.usual(2);
        Stores.deploy(store, 4, false, Stores.s(Stores.GET, 3, 0), Stores.s(Stores.ADD, 3, 3, 3),
            Stores.s(Stores.ADD, 3, 3, 1), Stores.s(Stores.PUT, 0, 3));
        store.invoke(3, Stores.PUT_ONE, 2, 1, 0);
        store.invoke(1, 4, 2, 1, 0);
        store.invoke(2, 4, 2, 10, 0);
        store.invoke(0, 4, 4, 10, 0);
        store.flush();
        store.crash();
        due.is("row(2)", store.row(2), 16);
        due.is("row(4), whose command aborts", store.row(4), Due.NONE);
    }

    private static void durableCommandsAboveTheMarkerAreDone() {
        due.sentence("and then the commands of the LOG with numbers up to DURABLE are done one after another in the order of numbers");
        PartitionedProcedureStore store = Stores.usual(1);
        Stores.deploy(store, 4, false, Stores.s(Stores.GET, 3, 0), Stores.s(Stores.ADD, 3, 3, 1), Stores.s(Stores.PUT, 0, 3));
        Stores.runNow(store, Stores.PUT_ONE, 2, 1, 0);
        Stores.runNow(store, 4, 2, 10, 0);
        store.snapshot();
        Stores.stepAll(store);
        store.scan(0, 1);
        Stores.runNow(store, 4, 2, 100, 0);
        store.invoke(0, 4, 2, 1000, 0);
        store.step(0);
        due.is("row(2) before", store.row(2), 1111);
        due.is("crash", store.crash(), 4);
        due.is("row(2): those below the marker are not done twice", store.row(2), 111);
    }

    private static void durableAbortsAreAborts() {
        due.sentence("A statement that aborts ends the run: all rows and cells are as before the command");
        PartitionedProcedureStore store = Stores.usual(2);
        Stores.runNow(store, Stores.PUT_TWO, 0, 32, 5);
        due.is("answer(0)", store.answer(0), ABORTED);
        store.invoke(1, Stores.PUT_TWO, 1, 33, 5);
        store.flush();
        due.is("crash", store.crash(), 2);
        due.is("row(0)", store.row(0), Due.NONE);
        due.is("row(1)", store.row(1), Due.NONE);
        due.is("log", store.count(2), 2);
    }

    private static void othersAreGone() {
        due.sentence("those above DURABLE are gone from the LOG");
        PartitionedProcedureStore store = Stores.usual(2);
        Stores.runNow(store, Stores.PUT_ONE, 0, 1, 0);
        store.invoke(0, Stores.PUT_ONE, 0, 2, 0);
        store.invoke(1, Stores.STORE_CELL, 0, 2, 0);
        Stores.stepAll(store);
        due.is("log before", store.count(2), 3);
        due.is("crash", store.crash(), 1);
        due.is("row(0)", store.row(0), 1);
        due.is("replicated(0)", store.replicated(0), 0);
        due.is("log", store.count(2), 1);
        due.is("flush", store.flush(), 1);
        due.is("crash again", store.crash(), 1);
        due.is("row(0)", store.row(0), 1);
    }

    private static void numbersAreGivenAgain() {
        due.sentence("and their numbers and those of markers above DURABLE are given again.");
        PartitionedProcedureStore store = Stores.usual(2);
        Stores.runNow(store, Stores.PUT_ONE, 0, 1, 0);
        store.invoke(0, Stores.PUT_ONE, 0, 2, 0);
        store.snapshot();
        due.is("count(0) before", store.count(0), 3);
        store.crash();
        due.is("count(0) after", store.count(0), 1);
        due.is("snapshot, with the number of a command", store.snapshot(), 2);
        due.is("invoke, with the number of a marker", store.invoke(0, Stores.PUT_ONE, 0, 3, 0), 3);
        due.is("flush", store.flush(), 3);
        due.is("crash", store.crash(), 3);
        due.is("row(0)", store.row(0), 3);
    }

    private static void durableNumbersAreNotGivenAgain() {
        due.sentence("and their numbers and those of markers above DURABLE are given again.");
        PartitionedProcedureStore store = Stores.usual(2);
        store.invoke(0, Stores.PUT_ONE, 0, 1, 0);
        store.snapshot();
        due.is("flush", store.flush(), 2);
        due.is("crash", store.crash(), 2);
        due.is("count(0)", store.count(0), 2);
        due.is("snapshot", store.snapshot(), 3);
        due.is("invoke", store.invoke(0, Stores.PUT_ONE, 0, 2, 0), 4);
    }

    private static void nothingWaits() {
        due.sentence("Nothing WAITS, no snapshot is under way, a draft stays.");
        PartitionedProcedureStore store = Stores.usual(3);
        store.invoke(0, Stores.PUT_ONE, 1, 5, 0);
        store.invoke(1, Stores.PUT_TWO, 0, 1, 5);
        store.snapshot();
        store.flush();
        store.invoke(2, Stores.PUT_ONE, 1, 5, 0);
        store.crash();
        for (int site = 0; site < 3; site++) {
            due.is("waiting(" + site + ")", store.waiting(site), 0);
            due.is("step(" + site + ")", store.step(site), IDLE);
        }
    }

    private static void noSiteIsStalled() {
        due.sentence("Nothing WAITS, no snapshot is under way, a draft stays.");
        PartitionedProcedureStore store = Stores.usual(3);
        store.invoke(0, Stores.PUT_TWO, 0, 1, 5);
        store.step(1);
        due.is("count(5) before", store.count(5), 1);
        store.crash();
        due.is("count(5)", store.count(5), 0);
        store.invoke(2, Stores.PUT_TWO, 0, 1, 6);
        due.is("count(5), no site has come to the new one", store.count(5), 0);
        due.is("step(0)", store.step(0), STALLED);
        due.is("step(2): site 1 is not there any more", store.step(2), STALLED);
        due.is("step(1)", store.step(1), RAN);
    }

    private static void snapshotUnderWayIsDropped() {
        due.sentence("Nothing WAITS, no snapshot is under way, a draft stays.");
        PartitionedProcedureStore store = Stores.usual(2);
        Stores.runNow(store, Stores.PUT_ONE, 0, 1, 0);
        store.snapshot();
        store.flush();
        Stores.stepAll(store);
        due.is("crash", store.crash(), 2);
        due.is("count(4)", store.count(4), 0);
        due.is("count(3)", store.count(3), 0);
        due.is("scan", store.scan(0, 1), REFUSED);
        due.is("log", store.count(2), 1);
        due.is("row(0)", store.row(0), 1);
    }

    private static void oldPartsAreForgotten() {
        due.sentence("Nothing WAITS, no snapshot is under way, a draft stays.");
        PartitionedProcedureStore store = Stores.usual(2);
        Stores.runNow(store, Stores.PUT_ONE, 0, 1, 0);
        Stores.runNow(store, Stores.PUT_ONE, 1, 1, 0);
        store.snapshot();
        store.step(0);
        store.scan(0, 5);
        store.crash();
        due.is("snapshot", store.snapshot(), 3);
        store.step(1);
        store.scan(1, 5);
        due.is("site 0 has yet to come", store.count(3), 0);
        due.is("scan(0, 5)", store.scan(0, 5), REFUSED);
        store.step(0);
        due.is("scan(0, 0)", store.scan(0, 0), 1);
        due.is("scan(0, 1)", store.scan(0, 1), 0);
        due.is("count(3)", store.count(3), 3);
    }

    private static void draftStays() {
        due.sentence("Nothing WAITS, no snapshot is under way, a draft stays.");
        PartitionedProcedureStore store = Stores.usual(2);
        store.open(5, true);
        store.crash();
        due.is("add to an empty draft after a crash", store.add(Stores.STORE, 0, 1, 0), 0);
        store.crash();
        due.is("add after a crash", store.add(Stores.OUT, 1, 0, 0), 1);
        for (int i = 2; i < 8; i++) {
            store.add(Stores.SET, 3, 0, 0);
        }
        store.crash();
        due.is("add to a full draft after a crash", store.add(Stores.OUT, 1, 0, 0), FULL);
        due.is("deploy after a crash", store.deploy(), PartitionedProcedureStore.DONE);
        Stores.runNow(store, 5, 2, 22, 0);
        due.is("replicated(2)", store.replicated(2), 22);
    }

    private static void noDraftStaysNone() {
        due.sentence("Nothing WAITS, no snapshot is under way, a draft stays.");
        PartitionedProcedureStore store = Stores.usual(2);
        store.crash();
        due.is("add", store.add(Stores.SET, 0, 0, 0), REFUSED);
        due.is("deploy", store.deploy(), REFUSED);
    }

    private static void pendingClientsAreLost() {
        due.sentence("PENDING clients are LOST.");
        PartitionedProcedureStore store = Stores.usual(2);
        store.invoke(0, Stores.PUT_ONE, 0, 1, 0);
        store.invoke(1, Stores.REMOVE_ONE, 1, 0, 0);
        store.flush();
        store.invoke(2, Stores.PUT_ONE, 0, 3, 0);
        store.invoke(3, Stores.PUT_ONE, 1, 4, 0);
        store.step(0);
        store.step(0);
        due.is("answer(0) before", store.answer(0), COMMITTED);
        store.crash();
        due.is("answer(0), done and durable", store.answer(0), COMMITTED);
        due.is("answer(1), durable and not done before", store.answer(1), LOST);
        due.is("answer(2), done and not durable", store.answer(2), LOST);
        due.is("answer(3), not done and not durable", store.answer(3), LOST);
    }

    private static void otherClientsStay() {
        due.sentence("then it is COMMITTED or ABORTED, until its next command.");
        PartitionedProcedureStore store = Stores.usual(2);
        Stores.runNow(store, Stores.PUT_ONE, 0, 1, 0);
        Stores.runNow(store, Stores.PUT_ONE, 0, 2, 0);
        store.invoke(1, Stores.PUT_TWO, 1, 32, 0);
        Stores.stepAll(store);
        store.flush();
        store.invoke(2, Stores.PUT_ONE, 0, 3, 0);
        store.crash();
        due.is("answer(0)", store.answer(0), COMMITTED);
        due.is("output(0, -1)", store.output(0, -1), 1);
        due.is("output(0, 0)", store.output(0, 0), 2);
        due.is("answer(1)", store.answer(1), ABORTED);
        due.is("output(1, -1)", store.output(1, -1), 1);
        due.is("answer(3)", store.answer(3), FREE);
    }

    private static void lostUntilTheNextCommand() {
        due.sentence("PENDING clients are LOST.");
        PartitionedProcedureStore store = Stores.usual(2);
        store.invoke(2, Stores.PUT_ONE, 0, 3, 0);
        store.flush();
        store.crash();
        due.is("answer(2)", store.answer(2), LOST);
        store.flush();
        store.step(0);
        store.crash();
        due.is("LOST stays LOST", store.answer(2), LOST);
        due.is("until the next command", store.invoke(2, Stores.PUT_ONE, 0, 4, 0), 2);
        due.is("answer(2)", store.answer(2), PENDING);
        store.step(0);
        store.flush();
        due.is("answer(2)", store.answer(2), COMMITTED);
        due.is("output(2, 0)", store.output(2, 0), 4);
    }

    private static void crashAnswersDurable() {
        due.sentence("Answers DURABLE.");
        PartitionedProcedureStore store = Stores.usual(2);
        store.invoke(0, Stores.PUT_ONE, 0, 1, 0);
        due.is("crash, nothing is durable", store.crash(), 0);
        store.invoke(0, Stores.PUT_ONE, 0, 1, 0);
        store.flush();
        store.invoke(1, Stores.PUT_ONE, 0, 1, 0);
        due.is("crash after a flush and a command", store.crash(), 1);
        store.snapshot();
        due.is("crash in a snapshot", store.crash(), 1);
        store.snapshot();
        Stores.stepAll(store);
        store.scan(0, 1);
        due.is("crash after a COMPLETE snapshot", store.crash(), 2);
        due.is("count(1)", store.count(1), 2);
    }

    private static void crashTwice() {
        due.sentence("Everything stops and begins again");
        PartitionedProcedureStore store = Stores.usual(2);
        Stores.deploy(store, 4, true, Stores.s(Stores.LOAD, 3, 0), Stores.s(Stores.ADD, 3, 3, 1),
            Stores.s(Stores.STORE, 0, 3));
        for (int round = 1; round <= 4; round++) {
            Stores.runNow(store, 4, 0, 5, 0);
            due.is("crash", store.crash(), round);
            due.is("crash", store.crash(), round);
            due.is("replicated(0)", store.replicated(0), 5L * round);
            due.is("log", store.count(2), round);
        }
    }
}
