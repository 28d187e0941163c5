/** Promises 1 to 4: a new object, open, add, deploy. */
public final class DraftTest {
    private static final int REFUSED = PartitionedProcedureStore.REFUSED;
    private static final int FULL = PartitionedProcedureStore.FULL;
    private static final int BAD = PartitionedProcedureStore.BAD;
    private static final int DONE = PartitionedProcedureStore.DONE;
    private static final Due due = new Due("DraftTest");

    public static void main(String[] args) {
        partitionsAreClamped();
        newObjectIsEmpty();
        openRefusesNumbersOutOfRange();
        openDropsTheDraft();
        refusedOpenKeepsTheDraft();
        addLooksAtRegisters();
        addIgnoresOperandsThatAreNotNamed();
        addIsFullLast();
        deployEndsTheDraft();
        deployLooksAtSkips();
        deployLooksAtStores();
        due.end();
    }

    private static PartitionedProcedureStore drafted(boolean multi) {
        PartitionedProcedureStore store = new PartitionedProcedureStore(2);
        store.open(0, multi);
        return store;
    }

    private static void partitionsAreClamped() {
        int[][] asked = {{Integer.MIN_VALUE, 1}, {-1, 1}, {0, 1}, {1, 1}, {2, 2}, {3, 3}, {4, 4}, {5, 4},
            {Integer.MAX_VALUE, 4}};
        for (int[] pair : asked) {
            PartitionedProcedureStore store = new PartitionedProcedureStore(pair[0]);
            due.is("rows of the last site of " + pair[0], store.rows(pair[1] - 1), 0);
            due.is("rows beyond the last site of " + pair[0], store.rows(pair[1]), REFUSED);
        }
    }

    private static void newObjectIsEmpty() {
        PartitionedProcedureStore store = new PartitionedProcedureStore(3);
        for (int key = 0; key < 32; key++) {
            due.is("row of a new object", store.row(key), Due.NONE);
        }
        for (int cell = 0; cell < 8; cell++) {
            due.is("cell of a new object", store.replicated(cell), 0);
        }
        for (int client = 0; client < 4; client++) {
            due.is("answer of a new object", store.answer(client), PartitionedProcedureStore.FREE);
            due.is("invoke of a new object", store.invoke(client, 0, 0, 0, 0), REFUSED);
        }
        for (int what = 0; what < 6; what++) {
            due.is("count of a new object", store.count(what), 0);
        }
        due.is("add without a draft", store.add(5, 0, 0, 0), REFUSED);
        due.is("deploy without a draft", store.deploy(), REFUSED);
    }

    private static void openRefusesNumbersOutOfRange() {
        PartitionedProcedureStore store = new PartitionedProcedureStore(1);
        due.is("open(-1)", store.open(-1, true), REFUSED);
        due.is("open(6)", store.open(6, false), REFUSED);
        due.is("open(min)", store.open(Integer.MIN_VALUE, false), REFUSED);
        due.is("open(max)", store.open(Integer.MAX_VALUE, false), REFUSED);
        due.is("no draft after refused opens", store.add(5, 0, 0, 0), REFUSED);
        for (int procedure = 0; procedure < 6; procedure++) {
            due.is("open(" + procedure + ")", store.open(procedure, false), DONE);
            store.add(5, 0, 0, 0);
            due.is("deploy of " + procedure, store.deploy(), DONE);
            due.is("open of the deployed " + procedure, store.open(procedure, true), REFUSED);
        }
    }

    private static void openDropsTheDraft() {
        PartitionedProcedureStore store = drafted(true);
        store.add(9, 0, 0, 0);
        store.add(5, 0, 0, 0);
        due.is("open of another procedure", store.open(1, false), DONE);
        due.is("first statement of the new draft", store.add(5, 0, 1, 0), 0);
        due.is("open of the same procedure", store.open(1, true), DONE);
        due.is("first statement again", store.add(9, 0, 1, 0), 0);
        due.is("deploy of the last draft, which is MULTI", store.deploy(), DONE);
        due.is("the dropped draft is not deployed", store.invoke(0, 0, 0, 0, 0), REFUSED);
        due.is("the last draft is", store.invoke(0, 1, 0, 0, 0), 1);
        due.is("and is MULTI", store.waiting(0) + store.waiting(1), 2);
    }

    private static void refusedOpenKeepsTheDraft() {
        PartitionedProcedureStore store = drafted(false);
        store.add(5, 0, 0, 0);
        store.deploy();
        store.open(1, false);
        store.add(5, 0, 0, 0);
        due.is("open(6)", store.open(6, false), REFUSED);
        due.is("open of a deployed one", store.open(0, true), REFUSED);
        due.is("the draft goes on", store.add(5, 0, 0, 0), 1);
        due.is("and is deployed", store.deploy(), DONE);
        due.is("as the one it was", store.invoke(0, 1, 0, 0, 0), 1);
    }

    private static void addLooksAtRegisters() {
        boolean[][] named = {
            {true, true, false}, {true, true, false}, {true, true, false}, {true, false, false}, {true, true, true},
            {true, false, false}, {true, true, false}, {true, false, false}, {true, true, false}, {true, true, false},
            {true, false, false}};
        for (int op = 0; op <= 10; op++) {
            for (int place = 0; place < 3; place++) {
                for (int bad : new int[] {-1, 6, Integer.MIN_VALUE, Integer.MAX_VALUE}) {
                    int[] operand = {1, 1, 1};
                    operand[place] = bad;
                    boolean refused = named[op][place] || op == Stores.SKIP && place == 1;
                    refused &= !(op == Stores.SKIP && place == 1 && bad == 6);
                    PartitionedProcedureStore store = drafted(true);
                    due.is("add(" + op + ") with operand " + place + " = " + bad,
                        store.add(op, operand[0], operand[1], operand[2]), refused ? REFUSED : 0);
                    due.is("add after it", store.add(Stores.ADD, 0, 5, 5), refused ? 0 : 1);
                }
            }
            due.is("add(" + op + ") with operands 5", drafted(true).add(op, 5, 5, 5), 0);
        }
        due.is("add(-1)", drafted(true).add(-1, 0, 0, 0), REFUSED);
        due.is("add(11)", drafted(true).add(11, 0, 0, 0), REFUSED);
        due.is("add(min)", drafted(true).add(Integer.MIN_VALUE, 0, 0, 0), REFUSED);
        due.is("SKIP of 0", drafted(true).add(Stores.SKIP, 0, 0, 0), REFUSED);
        due.is("SKIP of 1", drafted(true).add(Stores.SKIP, 0, 1, 0), 0);
        due.is("SKIP of 7", drafted(true).add(Stores.SKIP, 0, 7, 0), 0);
        due.is("SKIP of 8", drafted(true).add(Stores.SKIP, 0, 8, 0), REFUSED);
    }

    private static void addIgnoresOperandsThatAreNotNamed() {
        PartitionedProcedureStore store = new PartitionedProcedureStore(1);
        int far = Integer.MIN_VALUE;
        store.open(0, true);
        due.is("PUT", store.add(Stores.PUT, 0, 1, far), 0);
        due.is("GET", store.add(Stores.GET, 3, 0, far), 1);
        due.is("OUT", store.add(Stores.OUT, 3, far, far), 2);
        due.is("DELETE", store.add(Stores.DELETE, 0, far, far), 3);
        due.is("SET", store.add(Stores.SET, 4, far, far), 4);
        due.is("OUT", store.add(Stores.OUT, 4, -1, 6), 5);
        due.is("deploy", store.deploy(), DONE);
        Stores.runNow(store, 0, 7, 70, 0);
        due.is("output of GET", store.output(0, 0), 70);
        due.is("output of SET", store.output(0, 1), far);
    }

    private static void addIsFullLast() {
        PartitionedProcedureStore store = drafted(false);
        for (int i = 0; i < 8; i++) {
            due.is("add", store.add(Stores.SET, 0, i, 0), i);
        }
        due.is("a ninth", store.add(Stores.SET, 0, 8, 0), FULL);
        due.is("a ninth of a bad op", store.add(11, 0, 0, 0), REFUSED);
        due.is("a ninth of a bad register", store.add(Stores.SET, 6, 0, 0), REFUSED);
        due.is("a ninth of a bad SKIP", store.add(Stores.SKIP, 0, 8, 0), REFUSED);
        due.is("deploy of eight", store.deploy(), DONE);
        due.is("add after deploy", store.add(Stores.SET, 0, 0, 0), REFUSED);
    }

    private static void deployEndsTheDraft() {
        PartitionedProcedureStore store = drafted(false);
        due.is("deploy without statements", store.deploy(), BAD);
        due.is("deploy again", store.deploy(), REFUSED);
        due.is("add after BAD", store.add(Stores.SET, 0, 0, 0), REFUSED);
        due.is("invoke after BAD", store.invoke(0, 0, 0, 0, 0), REFUSED);
        due.is("open after BAD", store.open(0, false), DONE);
        due.is("add", store.add(Stores.SET, 0, 0, 0), 0);
        due.is("deploy", store.deploy(), DONE);
        due.is("deploy again", store.deploy(), REFUSED);
        due.is("invoke", store.invoke(0, 0, 0, 0, 0), 1);
    }

    private static void deployLooksAtSkips() {
        for (int before = 0; before < 3; before++) {
            for (int skipped = 1; skipped <= 5; skipped++) {
                for (int after = 0; after <= 4; after++) {
                    PartitionedProcedureStore store = drafted(false);
                    for (int i = 0; i < before; i++) {
                        store.add(Stores.SET, 0, 1, 0);
                    }
                    store.add(Stores.SKIP, 0, skipped, 0);
                    for (int i = 0; i < after; i++) {
                        store.add(Stores.SET, 0, 1, 0);
                    }
                    due.is("deploy of SKIP " + skipped + " before " + after, store.deploy(),
                        skipped > after ? BAD : DONE);
                }
            }
        }
    }

    private static void deployLooksAtStores() {
        for (int mode = 0; mode < 2; mode++) {
            boolean multi = mode == 1;
            PartitionedProcedureStore store = drafted(multi);
            store.add(Stores.SET, 0, 0, 0);
            store.add(Stores.STORE, 0, 1, 0);
            due.is("deploy with a STORE", store.deploy(), multi ? DONE : BAD);
            store.open(1, multi);
            store.add(Stores.LOAD, 0, 1, 0);
            due.is("deploy with a LOAD", store.deploy(), DONE);
        }
    }
}
