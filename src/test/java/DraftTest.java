/** Promises 1 to 4: a new object, open, add, deploy; and the form of a procedure (Terms). */
public final class DraftTest {
    private static final int REFUSED = PartitionedProcedureStore.REFUSED;
    private static final int FULL = PartitionedProcedureStore.FULL;
    private static final int BAD = PartitionedProcedureStore.BAD;
    private static final int DONE = PartitionedProcedureStore.DONE;
    private static final int MIN = Integer.MIN_VALUE;
    private static final int MAX = Integer.MAX_VALUE;
    private static final Due due = new Due("DraftTest");

    public static void main(String[] args) {
        partitionsAreClamped();
        sitesAreNumberedFrom0();
        rowsAreAbsentAtFirst();
        cellsHold0AtFirst();
        clientsAreFreeAtFirst();
        countsAre0AtFirst();
        openRefusesNumbersOutOfRange();
        openRefusesADeployedProcedure();
        openBeginsWithoutStatements();
        openDropsTheDraft();
        openDropsTheDraftsKind();
        refusedOpenKeepsTheDraft();
        addNeedsADraft();
        addRefusesOps();
        addLooksAtRegisters();
        addLooksAtSkips();
        addIgnoresOperandsThatAreNotNamed();
        addTakesEight();
        addIsFullLast();
        deployNeedsADraft();
        deployNeedsAStatement();
        deployLooksAtSkips();
        deployLooksAtStores();
        badDraftIsDropped();
        deployedIsForGood();
        due.end();
    }

    private static PartitionedProcedureStore drafted(boolean multi) {
        PartitionedProcedureStore store = new PartitionedProcedureStore(2);
        store.open(0, multi);
        return store;
    }

    private static void addSets(PartitionedProcedureStore store, int howMany) {
        for (int i = 0; i < howMany; i++) {
            store.add(Stores.SET, 0, 1, 0);
        }
    }

    private static void partitionsAreClamped() {
        due.sentence("partitions: PARTITIONS, clamped to 1 .. 4.");
        int[][] asked = {{MIN, 1}, {-1, 1}, {0, 1}, {1, 1}, {2, 2}, {3, 3}, {4, 4}, {5, 4}, {32, 4}, {MAX, 4}};
        for (int[] pair : asked) {
            PartitionedProcedureStore store = new PartitionedProcedureStore(pair[0]);
            due.is("rows of the last site of " + pair[0], store.rows(pair[1] - 1), 0);
            due.is("rows beyond the last site of " + pair[0], store.rows(pair[1]), REFUSED);
            addSetsAsProcedure0(store);
            for (int a = 0; a < pair[1]; a++) {
                store.invoke(a, 0, a, 0, 0);
            }
            for (int site = 0; site < pair[1]; site++) {
                due.is("waiting at site " + site + " of " + pair[0], store.waiting(site), 1);
            }
        }
    }

    private static void addSetsAsProcedure0(PartitionedProcedureStore store) {
        store.open(0, false);
        addSets(store, 1);
        store.deploy();
    }

    private static void sitesAreNumberedFrom0() {
        due.sentence("Their sites are numbered from 0.");
        for (int partitions = 1; partitions <= 4; partitions++) {
            PartitionedProcedureStore store = new PartitionedProcedureStore(partitions);
            for (int site = -1; site <= 5; site++) {
                boolean there = site >= 0 && site < partitions;
                due.is("step(" + site + ") of " + partitions, store.step(site), there ? 0 : REFUSED);
                due.is("waiting(" + site + ") of " + partitions, store.waiting(site), there ? 0 : REFUSED);
                due.is("rows(" + site + ") of " + partitions, store.rows(site), there ? 0 : REFUSED);
            }
        }
    }

    private static void rowsAreAbsentAtFirst() {
        due.sentence("All rows are absent at first.");
        PartitionedProcedureStore store = new PartitionedProcedureStore(3);
        for (int key = 0; key < 32; key++) {
            due.is("row(" + key + ")", store.row(key), Due.NONE);
        }
    }

    private static void cellsHold0AtFirst() {
        due.sentence("Cells 0 .. 7 of the REPLICATED table hold ints, 0 at first.");
        PartitionedProcedureStore store = new PartitionedProcedureStore(3);
        for (int cell = 0; cell < 8; cell++) {
            due.is("replicated(" + cell + ")", store.replicated(cell), 0);
        }
    }

    private static void clientsAreFreeAtFirst() {
        due.sentence("A client's state is FREE (at first), PENDING, COMMITTED, ABORTED or LOST.");
        PartitionedProcedureStore store = new PartitionedProcedureStore(3);
        for (int client = 0; client < 4; client++) {
            due.is("answer(" + client + ")", store.answer(client), PartitionedProcedureStore.FREE);
        }
    }

    private static void countsAre0AtFirst() {
        due.sentence("DURABLE is a number, 0 at first");
        PartitionedProcedureStore store = new PartitionedProcedureStore(3);
        for (int what = 0; what < 6; what++) {
            due.is("count(" + what + ")", store.count(what), 0);
        }
    }

    private static void openRefusesNumbersOutOfRange() {
        due.sentence("The number is out of 0 .. 5 or that procedure is deployed: REFUSED.");
        PartitionedProcedureStore store = new PartitionedProcedureStore(1);
        for (int procedure : new int[] {MIN, -1, 6, 7, MAX}) {
            due.is("open(" + procedure + ")", store.open(procedure, true), REFUSED);
            due.is("no draft after it", store.add(Stores.SET, 0, 0, 0), REFUSED);
        }
        due.is("open(0)", store.open(0, false), DONE);
        due.is("open(5)", store.open(5, false), DONE);
    }

    private static void openRefusesADeployedProcedure() {
        due.sentence("The number is out of 0 .. 5 or that procedure is deployed: REFUSED.");
        PartitionedProcedureStore store = new PartitionedProcedureStore(1);
        for (int procedure = 0; procedure < 6; procedure++) {
            due.is("open(" + procedure + ")", store.open(procedure, false), DONE);
            due.is("open of a draft's own number", store.open(procedure, false), DONE);
            addSets(store, 1);
            due.is("deploy of " + procedure, store.deploy(), DONE);
            due.is("open of the deployed " + procedure, store.open(procedure, false), REFUSED);
            due.is("open of it as MULTI", store.open(procedure, true), REFUSED);
        }
    }

    private static void openBeginsWithoutStatements() {
        due.sentence("Begins a draft of a procedure, without statements; a draft under way is dropped.");
        due.is("deploy of a new draft", drafted(false).deploy(), BAD);
        PartitionedProcedureStore store = drafted(false);
        addSets(store, 8);
        due.is("open again", store.open(0, false), DONE);
        due.is("deploy of it", store.deploy(), BAD);
    }

    private static void openDropsTheDraft() {
        due.sentence("Begins a draft of a procedure, without statements; a draft under way is dropped.");
        PartitionedProcedureStore store = drafted(true);
        store.add(Stores.STORE, 0, 0, 0);
        addSets(store, 1);
        due.is("open of another procedure", store.open(1, false), DONE);
        due.is("first statement of the new draft", store.add(Stores.SET, 0, 1, 0), 0);
        due.is("open of the same procedure", store.open(1, true), DONE);
        due.is("first statement again", store.add(Stores.STORE, 0, 1, 0), 0);
        due.is("deploy of the last draft, which is MULTI", store.deploy(), DONE);
        due.is("the dropped draft does not come back", store.deploy(), REFUSED);
        due.is("the dropped draft is not deployed", store.invoke(0, 0, 0, 0, 0), REFUSED);
        due.is("the last draft is", store.invoke(0, 1, 0, 0, 0), 1);
        due.is("and is MULTI", store.waiting(0) + store.waiting(1), 2);
    }

    private static void openDropsTheDraftsKind() {
        due.sentence("Begins a draft of a procedure, without statements; a draft under way is dropped.");
        PartitionedProcedureStore store = drafted(true);
        due.is("open of a MULTI draft's procedure as SINGLE", store.open(0, false), DONE);
        store.add(Stores.STORE, 0, 0, 0);
        due.is("deploy of it with a STORE", store.deploy(), BAD);
        store.open(0, true);
        due.is("open of it as SINGLE", store.open(0, false), DONE);
        addSets(store, 1);
        due.is("deploy of it", store.deploy(), DONE);
        store.invoke(0, 0, 0, 0, 0);
        due.is("it is SINGLE", store.waiting(0) + store.waiting(1), 1);
    }

    private static void refusedOpenKeepsTheDraft() {
        due.sentence("A refused call changes nothing.");
        PartitionedProcedureStore store = drafted(false);
        addSets(store, 1);
        store.deploy();
        store.open(1, false);
        addSets(store, 1);
        due.is("open(6)", store.open(6, true), REFUSED);
        due.is("open(-1)", store.open(-1, true), REFUSED);
        due.is("open of a deployed one", store.open(0, true), REFUSED);
        due.is("the draft goes on", store.add(Stores.SET, 0, 0, 0), 1);
        due.is("and is deployed", store.deploy(), DONE);
        due.is("as the one it was", store.invoke(0, 1, 0, 0, 0), 1);
        due.is("SINGLE", store.waiting(0) + store.waiting(1), 1);
    }

    private static void addNeedsADraft() {
        due.sentence("No draft, op out of 0 .. 10");
        PartitionedProcedureStore store = new PartitionedProcedureStore(2);
        for (int op = 0; op <= 10; op++) {
            due.is("add(" + op + ") to a new object", store.add(op, 1, 1, 1), REFUSED);
        }
        store.open(0, false);
        addSets(store, 1);
        store.deploy();
        due.is("add after deploy", store.add(Stores.SET, 0, 0, 0), REFUSED);
        store.open(1, false);
        store.deploy();
        due.is("add after BAD", store.add(Stores.SET, 0, 0, 0), REFUSED);
    }

    private static void addRefusesOps() {
        due.sentence("No draft, op out of 0 .. 10");
        PartitionedProcedureStore store = drafted(true);
        for (int op : new int[] {MIN, -1, 11, 12, MAX}) {
            due.is("add(" + op + ")", store.add(op, 1, 1, 1), REFUSED);
        }
        due.is("add(0) after them", store.add(Stores.GET, 1, 1, 1), 0);
        due.is("add(10)", store.add(Stores.OUT, 1, 1, 1), 1);
    }

    private static void addLooksAtRegisters() {
        due.sentence("or an operand that names a register (all named ones but y of SET and of SKIP) out of 0 .. 5: REFUSED.");
        boolean[][] names = {
            {true, true, false}, {true, true, false}, {true, true, false}, {true, false, false}, {true, true, true},
            {true, false, false}, {true, true, false}, {true, false, false}, {true, true, false}, {true, true, false},
            {true, false, false}};
        for (int op = 0; op <= 10; op++) {
            for (int place = 0; place < 3; place++) {
                if (op == Stores.SKIP && place == 1) {
                    continue;
                }
                for (int bad : new int[] {MIN, -1, 6, MAX}) {
                    int[] operand = {1, 1, 1};
                    operand[place] = bad;
                    PartitionedProcedureStore store = drafted(true);
                    due.is("add(" + op + ") with operand " + place + " = " + bad,
                        store.add(op, operand[0], operand[1], operand[2]), names[op][place] ? REFUSED : 0);
                    due.is("add after it", store.add(Stores.ADD, 0, 5, 5), names[op][place] ? 0 : 1);
                }
            }
            due.is("add(" + op + ") with operands 5", drafted(true).add(op, 5, 5, 5), 0);
            due.is("add(" + op + ") with registers 0", drafted(true).add(op, 0, op == Stores.SKIP ? 1 : 0, 0), 0);
        }
    }

    private static void addLooksAtSkips() {
        due.sentence("y of SKIP out of 1 .. 7: REFUSED.");
        for (int y : new int[] {MIN, -1, 0, 8, 9, MAX}) {
            PartitionedProcedureStore store = drafted(true);
            due.is("SKIP of " + y, store.add(Stores.SKIP, 0, y, 0), REFUSED);
            due.is("add after it", store.add(Stores.SET, 0, 0, 0), 0);
        }
        for (int y = 1; y <= 7; y++) {
            due.is("SKIP of " + y, drafted(true).add(Stores.SKIP, 0, y, 0), 0);
        }
    }

    private static void addIgnoresOperandsThatAreNotNamed() {
        due.sentence("(an operand that is not named is ignored, any int)");
        for (int far : new int[] {MIN, -1, 6, MAX}) {
            PartitionedProcedureStore store = new PartitionedProcedureStore(1);
            store.open(0, true);
            due.is("INSERT", store.add(Stores.INSERT, 0, 1, far), 0);
            due.is("PUT", store.add(Stores.PUT, 0, 1, far), 1);
            due.is("GET", store.add(Stores.GET, 3, 0, far), 2);
            due.is("OUT", store.add(Stores.OUT, 3, far, far), 3);
            due.is("DELETE", store.add(Stores.DELETE, 0, far, far), 4);
            due.is("SET", store.add(Stores.SET, 4, far, far), 5);
            due.is("OUT", store.add(Stores.OUT, 4, far, far), 6);
            due.is("NEED", store.add(Stores.NEED, 0, 2, far), 7);
            due.is("deploy", store.deploy(), DONE);
            store.open(1, true);
            due.is("STORE", store.add(Stores.STORE, 0, 1, far), 0);
            due.is("LOAD", store.add(Stores.LOAD, 3, 0, far), 1);
            due.is("SKIP", store.add(Stores.SKIP, 2, 1, far), 2);
            due.is("OUT", store.add(Stores.OUT, 1, far, far), 3);
            due.is("OUT", store.add(Stores.OUT, 3, far, far), 4);
            due.is("deploy", store.deploy(), DONE);
            Stores.runNow(store, 0, 7, 70, 0);
            due.is("output of GET", store.output(0, 0), 70);
            due.is("output of SET", store.output(0, 1), far);
            due.is("row after DELETE", store.row(7), Due.NONE);
            Stores.runNow(store, 1, 7, 70, 0);
            due.is("how much is put out after a SKIP", store.output(0, -1), 1);
            due.is("output of LOAD", store.output(0, 0), 70);
        }
    }

    private static void addTakesEight() {
        due.sentence("A procedure is SINGLE or MULTI and has 1 to 8 statements, numbered from 0.");
        for (int size = 1; size <= 8; size++) {
            PartitionedProcedureStore store = drafted(false);
            for (int i = 0; i < size; i++) {
                due.is("add", store.add(Stores.SET, 3, i, 0), i);
            }
            due.is("deploy of " + size, store.deploy(), DONE);
            due.is("invoke of it", store.invoke(0, 0, 0, 0, 0), 1);
        }
    }

    private static void addIsFullLast() {
        due.sentence("8 statements there: FULL (tested last).");
        PartitionedProcedureStore store = drafted(false);
        addSets(store, 8);
        for (int op = 0; op <= 10; op++) {
            due.is("a ninth", store.add(op, 5, 5, 5), FULL);
        }
        due.is("a ninth of a bad op", store.add(11, 0, 0, 0), REFUSED);
        due.is("a ninth of a bad op", store.add(-1, 0, 0, 0), REFUSED);
        due.is("a ninth of a bad register", store.add(Stores.SET, 6, 0, 0), REFUSED);
        due.is("a ninth of a bad register", store.add(Stores.ADD, 0, 0, -1), REFUSED);
        due.is("a ninth of a bad SKIP", store.add(Stores.SKIP, 0, 8, 0), REFUSED);
        due.is("a ninth of a bad SKIP", store.add(Stores.SKIP, 0, 0, 0), REFUSED);
        due.is("deploy of eight", store.deploy(), DONE);
        due.is("add without a draft, though eight were there", store.add(Stores.SET, 0, 0, 0), REFUSED);
    }

    private static void deployNeedsADraft() {
        due.sentence("Ends the draft. No draft: REFUSED.");
        PartitionedProcedureStore store = new PartitionedProcedureStore(2);
        due.is("deploy of a new object", store.deploy(), REFUSED);
        store.open(3, false);
        addSets(store, 1);
        due.is("deploy", store.deploy(), DONE);
        due.is("deploy again", store.deploy(), REFUSED);
        due.is("the procedure stays", store.invoke(0, 3, 0, 0, 0), 1);
    }

    private static void deployNeedsAStatement() {
        due.sentence("Otherwise the draft is dropped, and: it has no statement");
        due.is("deploy of an empty SINGLE draft", drafted(false).deploy(), BAD);
        due.is("deploy of an empty MULTI draft", drafted(true).deploy(), BAD);
    }

    private static void deployLooksAtSkips() {
        due.sentence("a SKIP passes over more statements than follow it");
        for (int before = 0; before <= 7; before++) {
            for (int skipped = 1; skipped <= 7; skipped++) {
                for (int after = 0; after <= 7 - before; after++) {
                    PartitionedProcedureStore store = drafted(false);
                    addSets(store, before);
                    store.add(Stores.SKIP, 0, skipped, 0);
                    addSets(store, after);
                    due.is("deploy of " + before + ", a SKIP of " + skipped + " and " + after, store.deploy(),
                        skipped > after ? BAD : DONE);
                }
            }
        }
    }

    private static void deployLooksAtStores() {
        due.sentence("or it is SINGLE and has a STORE: BAD");
        for (int place = 0; place < 8; place++) {
            for (int mode = 0; mode < 2; mode++) {
                PartitionedProcedureStore store = drafted(mode == 1);
                addSets(store, place);
                store.add(Stores.STORE, 0, 1, 0);
                addSets(store, 7 - place);
                due.is("deploy with STORE as statement " + place, store.deploy(), mode == 1 ? DONE : BAD);
            }
        }
        PartitionedProcedureStore store = drafted(false);
        for (int op : new int[] {0, 1, 2, 3, 4, 5, 6, 8}) {
            store.add(op, 0, 0, 0);
        }
        due.is("deploy of a SINGLE draft with all others", store.deploy(), DONE);
    }

    private static void badDraftIsDropped() {
        due.sentence("Otherwise the draft is dropped, and: it has no statement");
        PartitionedProcedureStore store = drafted(false);
        store.add(Stores.STORE, 0, 1, 0);
        due.is("deploy", store.deploy(), BAD);
        due.is("deploy again", store.deploy(), REFUSED);
        due.is("add after BAD", store.add(Stores.SET, 0, 0, 0), REFUSED);
        due.is("invoke after BAD", store.invoke(0, 0, 0, 0, 0), REFUSED);
        due.is("open after BAD", store.open(0, false), DONE);
        due.is("add begins at 0 again", store.add(Stores.SET, 0, 0, 0), 0);
        due.is("deploy", store.deploy(), DONE);
        due.is("invoke", store.invoke(0, 0, 0, 0, 0), 1);
    }

    private static void deployedIsForGood() {
        due.sentence("else the procedure is deployed, for good: DONE.");
        PartitionedProcedureStore store = drafted(false);
        store.add(Stores.OUT, 0, 0, 0);
        store.deploy();
        store.open(1, true);
        store.add(Stores.OUT, 1, 0, 0);
        due.is("open of it", store.open(0, true), REFUSED);
        store.crash();
        due.is("open of it after a crash", store.open(0, true), REFUSED);
        due.is("invoke of it after a crash", store.invoke(0, 0, 4, 5, 6), 1);
        store.step(0);
        store.flush();
        due.is("its statement is what it was", store.output(0, 0), 4);
        due.is("how much it puts out", store.output(0, -1), 1);
    }
}
