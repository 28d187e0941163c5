/** Promises 5 to 7, 11, 12 and 15: invoke, step, flush, answer, output, waiting. */
public final class CommandTest {
    private static final int REFUSED = PartitionedProcedureStore.REFUSED;
    private static final int FULL = PartitionedProcedureStore.FULL;
    private static final int IDLE = PartitionedProcedureStore.IDLE;
    private static final int RAN = PartitionedProcedureStore.RAN;
    private static final int STALLED = PartitionedProcedureStore.STALLED;
    private static final int PENDING = PartitionedProcedureStore.PENDING;
    private static final int COMMITTED = PartitionedProcedureStore.COMMITTED;
    private static final int ABORTED = PartitionedProcedureStore.ABORTED;
    private static final Due due = new Due("CommandTest");

    public static void main(String[] args) {
        invokeRefuses();
        invokeIsFull();
        refusedBeforeFull();
        singleWaitsAtOneSite();
        multiWaitsAtAllSites();
        sitesOutOfRange();
        stepTakesInOrder();
        stepStallsUntilAllHaveCome();
        oneSiteNeverStalls();
        answerWaitsForDoneAndDurable();
        outputTellsWhatIsThere();
        outputOfOtherStates();
        flushTellsTheLastNumber();
        due.end();
    }

    private static void invokeRefuses() {
        PartitionedProcedureStore store = Stores.usual(2);
        int[] wrong = {-1, 4, Integer.MIN_VALUE, Integer.MAX_VALUE};
        for (int client : wrong) {
            due.is("invoke of client " + client, store.invoke(client, Stores.PUT_ONE, 0, 0, 0), REFUSED);
        }
        int[] absent = {-1, 4, 5, 6, Integer.MIN_VALUE, Integer.MAX_VALUE};
        for (int procedure : absent) {
            due.is("invoke of procedure " + procedure, store.invoke(0, procedure, 0, 0, 0), REFUSED);
        }
        store.open(4, false);
        store.add(Stores.SET, 0, 0, 0);
        due.is("invoke of a draft", store.invoke(0, 4, 0, 0, 0), REFUSED);
        due.is("count(0)", store.count(0), 0);
        due.is("answer", store.answer(0), PartitionedProcedureStore.FREE);
        due.is("invoke", store.invoke(0, Stores.PUT_ONE, 0, 0, 0), 1);
        due.is("invoke while PENDING", store.invoke(0, Stores.PUT_ONE, 0, 0, 0), REFUSED);
        due.is("invoke of another client", store.invoke(3, Stores.PUT_ONE, 0, 0, 0), 2);
        due.is("log", store.count(2), 2);
        due.is("waiting", store.waiting(0), 2);
    }

    private static void invokeIsFull() {
        PartitionedProcedureStore store = Stores.usual(2);
        for (int i = 1; i <= 48; i++) {
            due.is("invoke", store.invoke(0, Stores.PUT_ONE, 1, i, 0), i);
            due.is("step", store.step(1), RAN);
            due.is("flush", store.flush(), i);
            due.is("log", store.count(2), i);
        }
        due.is("a 49th", store.invoke(0, Stores.PUT_ONE, 1, 49, 0), FULL);
        due.is("its client", store.answer(0), COMMITTED);
        due.is("its output stays", store.output(0, 0), 48);
        due.is("count(0)", store.count(0), 48);
        due.is("waiting", store.waiting(1), 0);
        due.is("crash", store.crash(), 48);
        due.is("the log after a crash", store.count(2), 48);
        due.is("still full", store.invoke(0, Stores.PUT_ONE, 1, 49, 0), FULL);
        due.is("snapshot", store.snapshot(), 49);
        Stores.stepAll(store);
        due.is("log before the snapshot is COMPLETE", store.count(2), 48);
        due.is("scan", store.scan(1, 1), 0);
        due.is("log after it", store.count(2), 0);
        due.is("invoke", store.invoke(0, Stores.PUT_ONE, 1, 50, 0), 50);
    }

    private static void refusedBeforeFull() {
        PartitionedProcedureStore store = Stores.usual(1);
        for (int i = 1; i <= 47; i++) {
            Stores.runNow(store, Stores.PUT_ONE, 1, i, 0);
        }
        store.invoke(1, Stores.PUT_ONE, 1, 1, 0);
        due.is("a PENDING client at a full log", store.invoke(1, Stores.PUT_ONE, 1, 1, 0), REFUSED);
        due.is("a client out of range at a full log", store.invoke(4, Stores.PUT_ONE, 1, 1, 0), REFUSED);
        due.is("no procedure at a full log", store.invoke(2, 5, 1, 1, 0), REFUSED);
        due.is("all fine at a full log", store.invoke(2, Stores.PUT_ONE, 1, 1, 0), FULL);
        due.is("answer", store.answer(2), PartitionedProcedureStore.FREE);
    }

    private static void singleWaitsAtOneSite() {
        int[] arguments = {0, 1, 2, 3, 5, -1, -2, -3, -7, Integer.MIN_VALUE, Integer.MAX_VALUE, 100};
        for (int partitions = 1; partitions <= 4; partitions++) {
            for (int a : arguments) {
                PartitionedProcedureStore store = Stores.usual(partitions);
                due.is("invoke", store.invoke(2, Stores.PUT_ONE, a, 5, 5), 1);
                int home = (int) (((long) a % partitions + partitions) % partitions);
                for (int site = 0; site < partitions; site++) {
                    due.is("waiting at " + site + " for " + a, store.waiting(site), site == home ? 1 : 0);
                }
                for (int site = 0; site < partitions; site++) {
                    due.is("step of " + site + " for " + a, store.step(site), site == home ? RAN : IDLE);
                    due.is("waiting after it", store.waiting(site), 0);
                }
            }
        }
    }

    private static void multiWaitsAtAllSites() {
        PartitionedProcedureStore store = Stores.usual(3);
        store.invoke(0, Stores.PUT_TWO, 0, 1, 5);
        store.snapshot();
        store.invoke(1, Stores.PUT_ONE, 1, 5, 0);
        due.is("waiting(0)", store.waiting(0), 2);
        due.is("waiting(1)", store.waiting(1), 3);
        due.is("waiting(2)", store.waiting(2), 2);
    }

    private static void sitesOutOfRange() {
        PartitionedProcedureStore store = Stores.usual(3);
        store.invoke(0, Stores.PUT_TWO, 0, 1, 5);
        for (int site : new int[] {-1, 3, 4, Integer.MIN_VALUE, Integer.MAX_VALUE}) {
            due.is("step(" + site + ")", store.step(site), REFUSED);
            due.is("waiting(" + site + ")", store.waiting(site), REFUSED);
            due.is("rows(" + site + ")", store.rows(site), REFUSED);
        }
        due.is("count(5)", store.count(5), 0);
        for (int client : new int[] {-1, 4, Integer.MIN_VALUE, Integer.MAX_VALUE}) {
            due.is("answer(" + client + ")", store.answer(client), REFUSED);
            due.is("output(" + client + ")", store.output(client, -1), Due.NONE);
        }
    }

    private static void stepTakesInOrder() {
        PartitionedProcedureStore store = Stores.usual(2);
        store.invoke(0, Stores.PUT_ONE, 0, 1, 0);
        store.invoke(1, Stores.PUT_ONE, 1, 2, 0);
        store.invoke(2, Stores.PUT_ONE, 0, 3, 0);
        store.invoke(3, Stores.PUT_ONE, 1, 4, 0);
        due.is("step(1)", store.step(1), RAN);
        due.is("row(1)", store.row(1), 2);
        due.is("row(0)", store.row(0), Due.NONE);
        due.is("step(0)", store.step(0), RAN);
        due.is("row(0)", store.row(0), 1);
        due.is("waiting(0)", store.waiting(0), 1);
        due.is("step(0)", store.step(0), RAN);
        due.is("row(0)", store.row(0), 3);
        due.is("step(0)", store.step(0), IDLE);
        due.is("step(1)", store.step(1), RAN);
        due.is("row(1)", store.row(1), 4);
        due.is("step(1)", store.step(1), IDLE);
    }

    private static void stepStallsUntilAllHaveCome() {
        PartitionedProcedureStore store = Stores.usual(3);
        store.invoke(0, Stores.PUT_ONE, 1, 1, 0);
        store.invoke(1, Stores.PUT_TWO, 0, 1, 7);
        store.invoke(2, Stores.PUT_ONE, 0, 8, 0);
        store.invoke(3, Stores.PUT_TWO, 0, 2, 9);
        due.is("count(5)", store.count(5), 0);
        due.is("step(0)", store.step(0), STALLED);
        due.is("count(5)", store.count(5), 2);
        due.is("step(1), the single before it", store.step(1), RAN);
        due.is("step(0) again", store.step(0), STALLED);
        due.is("waiting(0)", store.waiting(0), 3);
        due.is("step(1)", store.step(1), STALLED);
        due.is("nothing is written", store.row(0), Due.NONE);
        due.is("step(2)", store.step(2), RAN);
        due.is("row(0)", store.row(0), 7);
        due.is("row(1)", store.row(1), 7);
        due.is("count(5)", store.count(5), 0);
        due.is("waiting(0)", store.waiting(0), 2);
        due.is("waiting(1)", store.waiting(1), 1);
        due.is("step(2), at the next MULTI", store.step(2), STALLED);
        due.is("count(5)", store.count(5), 4);
        due.is("step(0), the single", store.step(0), RAN);
        due.is("row(0)", store.row(0), 8);
        due.is("step(1)", store.step(1), STALLED);
        due.is("step(2)", store.step(2), STALLED);
        due.is("step(0)", store.step(0), RAN);
        due.is("row(0)", store.row(0), 9);
        due.is("step(2)", store.step(2), IDLE);
    }

    private static void oneSiteNeverStalls() {
        PartitionedProcedureStore store = Stores.usual(1);
        store.invoke(0, Stores.STORE_CELL, 7, 3, 0);
        due.is("step(0)", store.step(0), RAN);
        due.is("replicated(7)", store.replicated(7), 3);
        due.is("step(0)", store.step(0), IDLE);
    }

    private static void answerWaitsForDoneAndDurable() {
        PartitionedProcedureStore store = Stores.usual(2);
        store.invoke(0, Stores.PUT_ONE, 0, 1, 0);
        store.invoke(1, Stores.REMOVE_ONE, 1, 0, 0);
        due.is("answer, not done", store.answer(0), PENDING);
        store.step(0);
        due.is("answer, done and not durable", store.answer(0), PENDING);
        due.is("output, done and not durable", store.output(0, -1), Due.NONE);
        due.is("flush", store.flush(), 2);
        due.is("answer, done and durable", store.answer(0), COMMITTED);
        due.is("answer, durable and not done", store.answer(1), PENDING);
        due.is("output, durable and not done", store.output(1, -1), Due.NONE);
        store.step(1);
        due.is("answer, durable and done", store.answer(1), ABORTED);
        store.invoke(0, Stores.PUT_ONE, 0, 2, 0);
        due.is("answer of the next command", store.answer(0), PENDING);
        due.is("output of the next command", store.output(0, -1), Due.NONE);
        due.is("answer of a client that sent nothing", store.answer(2), PartitionedProcedureStore.FREE);
        store.step(0);
        due.is("an old flush is not enough", store.answer(0), PENDING);
        store.flush();
        store.invoke(0, Stores.PUT_ONE, 0, 3, 0);
        store.flush();
        due.is("the last command's end is not enough", store.answer(0), PENDING);
    }

    private static void outputTellsWhatIsThere() {
        PartitionedProcedureStore store = Stores.usual(2);
        Stores.runNow(store, Stores.PUT_ONE, 0, -9, 0);
        due.is("output(0, -1)", store.output(0, -1), 1);
        due.is("output(0, 0)", store.output(0, 0), -9);
        for (int i : new int[] {-2, 1, 2, 3, 4, Integer.MIN_VALUE, Integer.MAX_VALUE}) {
            due.is("output(0, " + i + ")", store.output(0, i), Due.NONE);
        }
        Stores.runNow(store, Stores.REMOVE_ONE, 0, 0, 0);
        due.is("output without OUT", store.output(0, -1), 0);
        due.is("output(0, 0) without OUT", store.output(0, 0), Due.NONE);
        Stores.runNow(store, Stores.REMOVE_ONE, 0, 0, 0);
        due.is("answer of an abort", store.answer(0), ABORTED);
        due.is("fault", store.output(0, -1), 0);
        for (int i : new int[] {-2, 0, 1, 3, 4, Integer.MIN_VALUE, Integer.MAX_VALUE}) {
            due.is("output(0, " + i + ") of an abort", store.output(0, i), Due.NONE);
        }
    }

    private static void outputOfOtherStates() {
        PartitionedProcedureStore store = Stores.usual(2);
        for (int i = -2; i < 5; i++) {
            due.is("output of a FREE client", store.output(3, i), Due.NONE);
        }
        Stores.runNow(store, Stores.PUT_ONE, 0, 4, 0);
        store.invoke(0, Stores.PUT_ONE, 0, 5, 0);
        store.step(0);
        store.crash();
        due.is("answer", store.answer(0), PartitionedProcedureStore.LOST);
        for (int i = -2; i < 5; i++) {
            due.is("output of a LOST client", store.output(0, i), Due.NONE);
        }
    }

    private static void flushTellsTheLastNumber() {
        PartitionedProcedureStore store = Stores.usual(2);
        due.is("flush of nothing", store.flush(), 0);
        store.invoke(0, Stores.PUT_ONE, 0, 1, 0);
        due.is("DURABLE before", store.count(1), 0);
        due.is("flush of a command", store.flush(), 1);
        due.is("DURABLE after", store.count(1), 1);
        store.snapshot();
        due.is("flush of a marker", store.flush(), 2);
        due.is("DURABLE after", store.count(1), 2);
        due.is("flush again", store.flush(), 2);
        due.is("the snapshot is under way still", store.count(4), 2);
        due.is("the log", store.count(2), 1);
    }
}
