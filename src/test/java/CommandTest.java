/** Promises 5 to 7, 11, 12 and 15: invoke, step, flush, answer, output, waiting (Terms: COMMANDS AND MARKERS, ANSWERS). */
public final class CommandTest {
    private static final int REFUSED = PartitionedProcedureStore.REFUSED;
    private static final int IDLE = PartitionedProcedureStore.IDLE;
    private static final int RAN = PartitionedProcedureStore.RAN;
    private static final int STALLED = PartitionedProcedureStore.STALLED;
    private static final int MARKED = PartitionedProcedureStore.MARKED;
    private static final int FREE = PartitionedProcedureStore.FREE;
    private static final int PENDING = PartitionedProcedureStore.PENDING;
    private static final int COMMITTED = PartitionedProcedureStore.COMMITTED;
    private static final int ABORTED = PartitionedProcedureStore.ABORTED;
    private static final int LOST = PartitionedProcedureStore.LOST;
    private static final int MIN = Integer.MIN_VALUE;
    private static final int MAX = Integer.MAX_VALUE;
    private static final int[] NO_CLIENTS = {MIN, -1, 4, 5, MAX};
    private static final Due due = new Due("CommandTest");

    public static void main(String[] args) {
        numbersComeInOrder();
        invokeRefusesClientsOutOfRange();
        invokeRefusesAPendingClient();
        invokeRefusesProceduresThatAreNotDeployed();
        allSixProceduresCanBeSent();
        singleWaitsAtOneSite();
        multiAndMarkerWaitAtAllSites();
        stepRefusesSitesOutOfRange();
        stepIsIdle();
        stepMarks();
        stepTakesInOrder();
        abortedSingleIsDone();
        stepStallsUntilAllHaveCome();
        comingAgainIsNoSecondSite();
        abortedMultiStallsNoSite();
        anySiteCanBeTheLast();
        oneSiteNeverStalls();
        flushOfNothing();
        flushTellsTheLastNumber();
        answerRefusesClientsOutOfRange();
        answerWaitsForDoneAndDurable();
        answerStaysUntilTheNextCommand();
        outputOfACommit();
        outputOfAnAbort();
        outputOfOtherStates();
        outputOfNoClient();
        waitingRefusesSitesOutOfRange();
        waitingCountsTheOneStalledAt();
        due.end();
    }

    private static int[] noSites(int partitions) {
        return new int[] {MIN, -1, partitions, partitions + 1, 5, MAX};
    }

    private static void numbersComeInOrder() {
        due.sentence("COMMANDS AND MARKERS get the numbers 1, 2, .. in order as they come.");
        PartitionedProcedureStore store = Stores.usual(2);
        due.is("invoke, refused", store.invoke(4, Stores.PUT_ONE, 0, 0, 0), REFUSED);
        due.is("the first command", store.invoke(3, Stores.PUT_ONE, 0, 0, 0), 1);
        due.is("invoke, refused", store.invoke(3, Stores.PUT_ONE, 0, 0, 0), REFUSED);
        due.is("a marker", store.snapshot(), 2);
        due.is("snapshot, refused", store.snapshot(), REFUSED);
        due.is("a MULTI command", store.invoke(2, Stores.PUT_TWO, 0, 0, 0), 3);
        due.is("a SINGLE command of another site", store.invoke(0, Stores.PUT_ONE, 1, 0, 0), 4);
        due.is("count(0)", store.count(0), 4);
        due.is("a marker as the first of all", Stores.usual(1).snapshot(), 1);
    }

    private static void invokeRefusesClientsOutOfRange() {
        due.sentence("Client out of 0 .. 3 or PENDING, or procedure out of 0 .. 5 or not deployed: REFUSED.");
        PartitionedProcedureStore store = Stores.usual(2);
        for (int client : NO_CLIENTS) {
            due.is("invoke of client " + client, store.invoke(client, Stores.PUT_ONE, 0, 0, 0), REFUSED);
        }
        due.is("count(0)", store.count(0), 0);
        due.is("log", store.count(2), 0);
        for (int client = 0; client < 4; client++) {
            due.is("invoke of client " + client, store.invoke(client, Stores.PUT_ONE, 0, 0, 0), client + 1);
        }
    }

    private static void invokeRefusesAPendingClient() {
        due.sentence("Client out of 0 .. 3 or PENDING, or procedure out of 0 .. 5 or not deployed: REFUSED.");
        PartitionedProcedureStore store = Stores.usual(2);
        store.invoke(0, Stores.PUT_ONE, 0, 1, 0);
        due.is("invoke, not done", store.invoke(0, Stores.PUT_ONE, 1, 2, 0), REFUSED);
        due.is("waiting(1)", store.waiting(1), 0);
        store.step(0);
        due.is("invoke, done and not durable", store.invoke(0, Stores.PUT_ONE, 1, 2, 0), REFUSED);
        due.is("answer", store.answer(0), PENDING);
        store.flush();
        due.is("output of the command, not of the refused ones", store.output(0, 0), 1);
        due.is("invoke, COMMITTED", store.invoke(0, Stores.REMOVE_ONE, 1, 0, 0), 2);
        store.flush();
        due.is("invoke, durable and not done", store.invoke(0, Stores.PUT_ONE, 0, 2, 0), REFUSED);
        store.step(1);
        due.is("answer", store.answer(0), ABORTED);
        due.is("invoke, ABORTED", store.invoke(0, Stores.PUT_ONE, 0, 3, 0), 3);
        store.crash();
        due.is("answer", store.answer(0), LOST);
        due.is("invoke, LOST", store.invoke(0, Stores.PUT_ONE, 0, 4, 0), 3);
        due.is("invoke of another client", store.invoke(1, Stores.PUT_ONE, 0, 5, 0), 4);
    }

    private static void invokeRefusesProceduresThatAreNotDeployed() {
        due.sentence("Client out of 0 .. 3 or PENDING, or procedure out of 0 .. 5 or not deployed: REFUSED.");
        PartitionedProcedureStore store = Stores.usual(2);
        for (int procedure : new int[] {MIN, -1, 4, 5, 6, 7, MAX}) {
            due.is("invoke of procedure " + procedure, store.invoke(0, procedure, 0, 0, 0), REFUSED);
        }
        store.open(4, false);
        store.add(Stores.SET, 0, 0, 0);
        due.is("invoke of a draft", store.invoke(0, 4, 0, 0, 0), REFUSED);
        store.open(5, false);
        due.is("invoke of a dropped draft", store.invoke(0, 4, 0, 0, 0), REFUSED);
        store.deploy();
        due.is("invoke of a BAD draft", store.invoke(0, 5, 0, 0, 0), REFUSED);
        due.is("count(0)", store.count(0), 0);
        due.is("answer", store.answer(0), FREE);
        due.is("waiting(0)", store.waiting(0), 0);
    }

    private static void allSixProceduresCanBeSent() {
        due.sentence("PROCEDURES 0 .. 5.");
        PartitionedProcedureStore store = new PartitionedProcedureStore(2);
        for (int procedure = 0; procedure < 6; procedure++) {
            Stores.deploy(store, procedure, procedure % 2 == 0, Stores.s(Stores.SET, 3, 10 + procedure),
                Stores.s(Stores.OUT, 3));
        }
        for (int procedure = 5; procedure >= 0; procedure--) {
            Stores.runNow(store, procedure, 0, 0, 0);
            due.is("output of procedure " + procedure, store.output(0, 0), 10 + procedure);
        }
    }

    private static void singleWaitsAtOneSite() {
        due.sentence("the partition (argument 0) mod PARTITIONS, as a number 0 .. PARTITIONS - 1 also for a negative argument.");
        int[] arguments = {0, 1, 2, 3, 4, 5, -1, -2, -3, -4, -5, -7, MIN, MIN + 1, MAX, MAX - 1, 100};
        for (int partitions = 1; partitions <= 4; partitions++) {
            for (int a : arguments) {
                PartitionedProcedureStore store = Stores.usual(partitions);
                due.is("invoke", store.invoke(2, Stores.PUT_ONE, a, 5, 5), 1);
                int home = (int) (((long) a % partitions + partitions) % partitions);
                for (int site = 0; site < partitions; site++) {
                    due.is("waiting at " + site + " for " + a, store.waiting(site), site == home ? 1 : 0);
                }
                for (int site = 0; site < partitions; site++) {
                    due.is("step of " + site + " for " + a, store.step(site), site == home ? RAN : IDLE);
                    due.is("waiting after it", store.waiting(site), 0);
                }
            }
        }
    }

    private static void multiAndMarkerWaitAtAllSites() {
        due.sentence("A command of a MULTI procedure, and a marker, WAIT at all sites.");
        for (int partitions = 1; partitions <= 4; partitions++) {
            PartitionedProcedureStore store = Stores.usual(partitions);
            store.invoke(0, Stores.PUT_TWO, 0, 1, 5);
            for (int site = 0; site < partitions; site++) {
                due.is("waiting(" + site + ") for a MULTI command", store.waiting(site), 1);
            }
            store.snapshot();
            store.invoke(1, Stores.PUT_ONE, partitions - 1, 5, 0);
            for (int site = 0; site < partitions; site++) {
                due.is("waiting(" + site + ") for a marker too", store.waiting(site), site == partitions - 1 ? 3 : 2);
            }
        }
    }

    private static void stepRefusesSitesOutOfRange() {
        due.sentence("Lets a site do one thing. Site out of range: REFUSED.");
        for (int partitions = 1; partitions <= 4; partitions++) {
            PartitionedProcedureStore store = Stores.usual(partitions);
            store.invoke(0, Stores.STORE_CELL, 0, 1, 5);
            for (int site : noSites(partitions)) {
                due.is("step(" + site + ") of " + partitions, store.step(site), REFUSED);
            }
            due.is("count(5)", store.count(5), 0);
            due.is("waiting(0)", store.waiting(0), 1);
            due.is("replicated(0)", store.replicated(0), 0);
        }
    }

    private static void stepIsIdle() {
        due.sentence("Nothing WAITS there: IDLE.");
        PartitionedProcedureStore store = Stores.usual(2);
        due.is("step(0) of a new object", store.step(0), IDLE);
        store.invoke(0, Stores.PUT_ONE, 0, 1, 0);
        due.is("step(1), where nothing waits", store.step(1), IDLE);
        due.is("waiting(0)", store.waiting(0), 1);
        store.step(0);
        due.is("step(0), after its last command", store.step(0), IDLE);
        due.is("row(0)", store.row(0), 1);
    }

    private static void stepMarks() {
        due.sentence("A marker is next: the site comes to it and passes on: MARKED.");
        PartitionedProcedureStore store = Stores.usual(2);
        store.snapshot();
        store.invoke(0, Stores.PUT_ONE, 0, 1, 0);
        due.is("step(0)", store.step(0), MARKED);
        due.is("waiting(0)", store.waiting(0), 1);
        due.is("waiting(1)", store.waiting(1), 1);
        due.is("step(0), past the marker", store.step(0), RAN);
        due.is("step(1)", store.step(1), MARKED);
        due.is("step(1)", store.step(1), IDLE);
    }

    private static void stepTakesInOrder() {
        due.sentence("A site takes what WAITS there in the order of numbers.");
        PartitionedProcedureStore store = Stores.usual(2);
        store.invoke(3, Stores.PUT_ONE, 0, 1, 0);
        store.invoke(1, Stores.PUT_ONE, 1, 2, 0);
        store.invoke(2, Stores.PUT_ONE, 0, 3, 0);
        store.invoke(0, Stores.PUT_ONE, 1, 4, 0);
        due.is("step(1)", store.step(1), RAN);
        due.is("row(1)", store.row(1), 2);
        due.is("row(0)", store.row(0), Due.NONE);
        due.is("step(0)", store.step(0), RAN);
        due.is("row(0)", store.row(0), 1);
        due.is("waiting(0)", store.waiting(0), 1);
        due.is("step(0)", store.step(0), RAN);
        due.is("row(0)", store.row(0), 3);
        due.is("step(1)", store.step(1), RAN);
        due.is("row(1)", store.row(1), 4);
        due.is("step(1)", store.step(1), IDLE);
    }

    private static void abortedSingleIsDone() {
        due.sentence("A SINGLE command is next: it is done: RAN.");
        PartitionedProcedureStore store = Stores.usual(2);
        store.invoke(0, Stores.REMOVE_ONE, 1, 0, 0);
        store.invoke(1, Stores.PUT_ONE, 1, 5, 0);
        due.is("step(1), which aborts", store.step(1), RAN);
        due.is("waiting(1)", store.waiting(1), 1);
        due.is("row(1)", store.row(1), Due.NONE);
        due.is("step(1)", store.step(1), RAN);
        due.is("row(1)", store.row(1), 5);
    }

    private static void stepStallsUntilAllHaveCome() {
        due.sentence("A MULTI command is done when the last site has come to it; until then a site that has come to it is STALLED.");
        PartitionedProcedureStore store = Stores.usual(3);
        store.invoke(0, Stores.PUT_ONE, 1, 1, 0);
        store.invoke(1, Stores.PUT_TWO, 0, 1, 7);
        store.invoke(2, Stores.PUT_ONE, 0, 8, 0);
        store.invoke(3, Stores.PUT_TWO, 0, 2, 9);
        due.is("count(5)", store.count(5), 0);
        due.is("step(0)", store.step(0), STALLED);
        due.is("count(5)", store.count(5), 2);
        due.is("step(1), the single before it", store.step(1), RAN);
        due.is("step(0) again", store.step(0), STALLED);
        due.is("step(0) a third time", store.step(0), STALLED);
        due.is("waiting(0)", store.waiting(0), 3);
        due.is("step(1)", store.step(1), STALLED);
        due.is("nothing is written", store.row(0), Due.NONE);
        due.is("step(2)", store.step(2), RAN);
        due.is("row(0)", store.row(0), 7);
        due.is("row(1)", store.row(1), 7);
        due.is("count(5)", store.count(5), 0);
        due.is("waiting(0)", store.waiting(0), 2);
        due.is("waiting(1)", store.waiting(1), 1);
        due.is("step(2), at the next MULTI", store.step(2), STALLED);
        due.is("count(5)", store.count(5), 4);
        due.is("step(0), the single", store.step(0), RAN);
        due.is("row(0)", store.row(0), 8);
        due.is("step(1)", store.step(1), STALLED);
        due.is("step(2)", store.step(2), STALLED);
        due.is("step(0)", store.step(0), RAN);
        due.is("row(0)", store.row(0), 9);
        due.is("step(2)", store.step(2), IDLE);
    }

    private static void comingAgainIsNoSecondSite() {
        due.sentence("A MULTI command is next: the site comes to it (or had come to it before)");
        for (int partitions = 2; partitions <= 4; partitions++) {
            PartitionedProcedureStore store = Stores.usual(partitions);
            store.invoke(0, Stores.STORE_CELL, 0, 6, 0);
            for (int time = 0; time < 5; time++) {
                due.is("step(1) of " + partitions, store.step(1), STALLED);
            }
            due.is("replicated(0)", store.replicated(0), 0);
            due.is("waiting(1)", store.waiting(1), 1);
            due.is("count(5)", store.count(5), 1);
        }
    }

    private static void abortedMultiStallsNoSite() {
        due.sentence("all other sites have come to it too: it is done, and no site is STALLED: RAN; else STALLED.");
        PartitionedProcedureStore store = Stores.usual(2);
        store.invoke(0, Stores.PUT_TWO, 0, 32, 7);
        due.is("step(0)", store.step(0), STALLED);
        due.is("step(1), which aborts", store.step(1), RAN);
        due.is("count(5)", store.count(5), 0);
        due.is("waiting(0)", store.waiting(0), 0);
        due.is("waiting(1)", store.waiting(1), 0);
        due.is("row(0)", store.row(0), Due.NONE);
        due.is("flush", store.flush(), 1);
        due.is("answer", store.answer(0), ABORTED);
        due.is("fault", store.output(0, -1), 1);
    }

    private static void anySiteCanBeTheLast() {
        due.sentence("all other sites have come to it too: it is done, and no site is STALLED: RAN; else STALLED.");
        for (int partitions = 2; partitions <= 4; partitions++) {
            for (int last = 0; last < partitions; last++) {
                PartitionedProcedureStore store = Stores.usual(partitions);
                store.invoke(0, Stores.STORE_CELL, 3, 33, 0);
                for (int site = 0; site < partitions; site++) {
                    if (site != last) {
                        due.is("step(" + site + ") of " + partitions, store.step(site), STALLED);
                        due.is("count(5)", store.count(5), 1);
                    }
                }
                due.is("replicated(3)", store.replicated(3), 0);
                due.is("step(" + last + "), the last of " + partitions, store.step(last), RAN);
                due.is("replicated(3)", store.replicated(3), 33);
                due.is("count(5)", store.count(5), 0);
            }
        }
    }

    private static void oneSiteNeverStalls() {
        due.sentence("all other sites have come to it too: it is done, and no site is STALLED: RAN; else STALLED.");
        PartitionedProcedureStore store = Stores.usual(1);
        store.invoke(0, Stores.STORE_CELL, 7, 3, 0);
        due.is("step(0)", store.step(0), RAN);
        due.is("replicated(7)", store.replicated(7), 3);
        due.is("step(0)", store.step(0), IDLE);
    }

    private static void flushOfNothing() {
        due.sentence("DURABLE becomes the number of the last command or marker (0 if there was none).");
        PartitionedProcedureStore store = Stores.usual(2);
        due.is("flush of nothing", store.flush(), 0);
        due.is("DURABLE", store.count(1), 0);
        store.invoke(0, Stores.PUT_ONE, 0, 1, 0);
        store.crash();
        due.is("flush of nothing after a crash", store.flush(), 0);
    }

    private static void flushTellsTheLastNumber() {
        due.sentence("DURABLE becomes the number of the last command or marker (0 if there was none).");
        PartitionedProcedureStore store = Stores.usual(2);
        store.invoke(0, Stores.PUT_ONE, 0, 1, 0);
        due.is("DURABLE before", store.count(1), 0);
        due.is("flush of a command", store.flush(), 1);
        due.is("DURABLE after", store.count(1), 1);
        store.snapshot();
        due.is("flush of a marker", store.flush(), 2);
        due.is("DURABLE after", store.count(1), 2);
        due.is("flush again", store.flush(), 2);
        due.is("the snapshot is under way still", store.count(4), 2);
        due.is("the log", store.count(2), 1);
        store.invoke(1, Stores.PUT_ONE, 0, 1, 0);
        store.crash();
        due.is("flush after a crash", store.flush(), 2);
    }

    private static void answerRefusesClientsOutOfRange() {
        due.sentence("The state of a client; REFUSED for a number out of 0 .. 3.");
        PartitionedProcedureStore store = Stores.usual(2);
        for (int client : NO_CLIENTS) {
            due.is("answer(" + client + ")", store.answer(client), REFUSED);
        }
        store.invoke(0, Stores.PUT_ONE, 0, 0, 0);
        store.invoke(3, Stores.PUT_ONE, 0, 0, 0);
        int[] want = {PENDING, FREE, FREE, PENDING};
        for (int client = 0; client < 4; client++) {
            due.is("answer(" + client + ")", store.answer(client), want[client]);
        }
    }

    private static void answerWaitsForDoneAndDurable() {
        due.sentence("It is PENDING from its command on until that is done and its number is at most DURABLE");
        PartitionedProcedureStore store = Stores.usual(2);
        store.invoke(0, Stores.PUT_ONE, 0, 1, 0);
        due.is("answer, not done", store.answer(0), PENDING);
        store.step(0);
        due.is("answer, done, its number DURABLE + 1", store.answer(0), PENDING);
        due.is("flush", store.flush(), 1);
        due.is("answer, done, its number DURABLE", store.answer(0), COMMITTED);
        store.invoke(1, Stores.REMOVE_ONE, 1, 0, 0);
        store.invoke(2, Stores.REMOVE_ONE, 1, 0, 0);
        store.flush();
        due.is("answer, not done, its number below DURABLE", store.answer(1), PENDING);
        due.is("answer, not done, its number DURABLE", store.answer(2), PENDING);
        store.step(1);
        due.is("answer, done, its number below DURABLE", store.answer(1), ABORTED);
        due.is("answer of the next one, not done", store.answer(2), PENDING);
        store.step(1);
        due.is("answer, done, its number DURABLE", store.answer(2), ABORTED);
        store.invoke(3, Stores.PUT_TWO, 0, 1, 5);
        store.flush();
        store.step(0);
        due.is("answer, a site is STALLED at it", store.answer(3), PENDING);
        store.step(1);
        due.is("answer, the last site has come", store.answer(3), COMMITTED);
    }

    private static void answerStaysUntilTheNextCommand() {
        due.sentence("then it is COMMITTED or ABORTED, until its next command.");
        PartitionedProcedureStore store = Stores.usual(2);
        Stores.runNow(store, Stores.PUT_ONE, 0, 1, 0);
        store.invoke(1, Stores.PUT_ONE, 0, 2, 0);
        store.step(0);
        due.is("answer, while another's command is done", store.answer(0), COMMITTED);
        due.is("its output", store.output(0, 0), 1);
        store.invoke(0, Stores.PUT_ONE, 0, 3, 0);
        due.is("answer of the next command", store.answer(0), PENDING);
        store.step(0);
        due.is("an old flush is not enough", store.answer(0), PENDING);
        store.flush();
        due.is("answer", store.answer(0), COMMITTED);
        due.is("output", store.output(0, 0), 3);
        store.invoke(0, Stores.PUT_ONE, 0, 4, 0);
        store.flush();
        due.is("the last command's end is not enough", store.answer(0), PENDING);
    }

    private static void outputOfACommit() {
        due.sentence("COMMITTED: for i = -1 how many ints the OUTPUT of the client's last command has, else its i-th (from 0) if there is one.");
        PartitionedProcedureStore store = Stores.usual(2);
        Stores.deploy(store, 5, false, Stores.s(Stores.OUT, 2), Stores.s(Stores.OUT, 1), Stores.s(Stores.OUT, 0),
            Stores.s(Stores.OUT, 2));
        Stores.runNow(store, 5, 7, 8, 9);
        long[] want = {4, 9, 8, 7, 9};
        for (int i = -1; i < 4; i++) {
            due.is("output(0, " + i + ") of four", store.output(0, i), want[i + 1]);
        }
        for (int i : new int[] {MIN, -2, 4, 5, MAX}) {
            due.is("output(0, " + i + ") of four", store.output(0, i), Due.NONE);
        }
        Stores.runNow(store, Stores.PUT_ONE, 0, -9, 0);
        due.is("output(0, -1) of one", store.output(0, -1), 1);
        due.is("output(0, 0) of one", store.output(0, 0), -9);
        for (int i : new int[] {MIN, -2, 1, 2, 3, 4, MAX}) {
            due.is("output(0, " + i + ") of one", store.output(0, i), Due.NONE);
        }
        Stores.runNow(store, Stores.REMOVE_ONE, 0, 0, 0);
        due.is("output(0, -1) of none", store.output(0, -1), 0);
        due.is("output(0, 0) of none", store.output(0, 0), Due.NONE);
        due.is("output of a client that sent nothing", store.output(1, -1), Due.NONE);
    }

    private static void outputOfAnAbort() {
        due.sentence("ABORTED: for i = -1 the FAULT.");
        PartitionedProcedureStore store = Stores.usual(2);
        Stores.deploy(store, 5, false, Stores.s(Stores.OUT, 2), Stores.s(Stores.OUT, 1), Stores.s(Stores.GET, 3, 1));
        Stores.runNow(store, Stores.REMOVE_ONE, 0, 0, 0);
        due.is("answer of an abort", store.answer(0), ABORTED);
        due.is("fault", store.output(0, -1), 0);
        Stores.runNow(store, 5, 0, 2, 0);
        due.is("fault", store.output(0, -1), 2);
        for (int i : new int[] {MIN, -2, 0, 1, 2, 3, 4, MAX}) {
            due.is("output(0, " + i + ") of an abort", store.output(0, i), Due.NONE);
        }
    }

    private static void outputOfOtherStates() {
        due.sentence("ABORTED: for i = -1 the FAULT. Otherwise NONE.");
        PartitionedProcedureStore store = Stores.usual(2);
        Stores.runNow(store, Stores.PUT_ONE, 0, 4, 0);
        store.invoke(0, Stores.PUT_ONE, 0, 5, 0);
        for (int i = -2; i < 5; i++) {
            due.is("output of a FREE client", store.output(3, i), Due.NONE);
            due.is("output of a PENDING client, not done", store.output(0, i), Due.NONE);
        }
        store.step(0);
        for (int i = -2; i < 5; i++) {
            due.is("output of a PENDING client, done", store.output(0, i), Due.NONE);
        }
        store.crash();
        due.is("answer", store.answer(0), LOST);
        for (int i = -2; i < 5; i++) {
            due.is("output of a LOST client", store.output(0, i), Due.NONE);
        }
    }

    private static void outputOfNoClient() {
        due.sentence("ABORTED: for i = -1 the FAULT. Otherwise NONE.");
        PartitionedProcedureStore store = Stores.usual(2);
        Stores.runNow(store, Stores.PUT_ONE, 0, 4, 0);
        for (int client : NO_CLIENTS) {
            for (int i = -1; i < 2; i++) {
                due.is("output(" + client + ", " + i + ")", store.output(client, i), Due.NONE);
            }
        }
    }

    private static void waitingRefusesSitesOutOfRange() {
        due.sentence("one that it is STALLED at among them; REFUSED for a site out of range.");
        for (int partitions = 1; partitions <= 4; partitions++) {
            PartitionedProcedureStore store = Stores.usual(partitions);
            store.snapshot();
            for (int site : noSites(partitions)) {
                due.is("waiting(" + site + ") of " + partitions, store.waiting(site), REFUSED);
            }
        }
    }

    private static void waitingCountsTheOneStalledAt() {
        due.sentence("How many commands and markers WAIT at a site, one that it is STALLED at among them");
        PartitionedProcedureStore store = Stores.usual(2);
        due.is("waiting(0) of nothing", store.waiting(0), 0);
        for (int client = 0; client < 4; client++) {
            store.invoke(client, Stores.PUT_TWO, 0, 1, client);
        }
        store.snapshot();
        due.is("waiting(0)", store.waiting(0), 5);
        store.step(0);
        due.is("waiting(0), STALLED", store.waiting(0), 5);
        due.is("waiting(1), which has not come", store.waiting(1), 5);
        store.step(1);
        due.is("waiting(0), done", store.waiting(0), 4);
        due.is("waiting(1), done", store.waiting(1), 4);
    }
}
