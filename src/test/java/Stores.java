/** Stores with procedures in them, and the statements by name, for the tests. */
final class Stores {
    static final int GET = 0;
    static final int PUT = 1;
    static final int INSERT = 2;
    static final int DELETE = 3;
    static final int ADD = 4;
    static final int SET = 5;
    static final int NEED = 6;
    static final int SKIP = 7;
    static final int LOAD = 8;
    static final int STORE = 9;
    static final int OUT = 10;

    /** Procedures of {@link #usual}. */
    static final int PUT_ONE = 0;
    static final int REMOVE_ONE = 1;
    static final int PUT_TWO = 2;
    static final int STORE_CELL = 3;

    private Stores() {
    }

    static void deploy(PartitionedProcedureStore store, int procedure, boolean multi, int[]... statements) {
        boolean fine = store.open(procedure, multi) == PartitionedProcedureStore.DONE;
        for (int i = 0; i < statements.length; i++) {
            int[] s = statements[i];
            fine &= store.add(s[0], s.length > 1 ? s[1] : 0, s.length > 2 ? s[2] : 0, s.length > 3 ? s[3] : 0) == i;
        }
        fine &= store.deploy() == PartitionedProcedureStore.DONE;
        if (!fine) {
            throw new IllegalStateException("procedure " + procedure + " could not be deployed");
        }
    }

    static int[] s(int... statement) {
        return statement;
    }

    /**
     * PUT_ONE (single): the row of key a becomes b, and b is put out. REMOVE_ONE (single): the row of key a is deleted.
     * PUT_TWO (multi): the rows of keys a and b become c. STORE_CELL (multi): cell a becomes b, and b is put out.
     */
    static PartitionedProcedureStore usual(int partitions) {
        PartitionedProcedureStore store = new PartitionedProcedureStore(partitions);
        deploy(store, PUT_ONE, false, s(PUT, 0, 1), s(OUT, 1));
        deploy(store, REMOVE_ONE, false, s(DELETE, 0));
        deploy(store, PUT_TWO, true, s(PUT, 0, 2), s(PUT, 1, 2));
        deploy(store, STORE_CELL, true, s(STORE, 0, 1), s(OUT, 1));
        return store;
    }

    /**
     * Sends a command of client 0 where nothing waits, lets each site step once, which does it, and flushes.
     * It is six calls, for an object promises nothing past its 512th.
     */
    static void runNow(PartitionedProcedureStore store, int procedure, int a, int b, int c) {
        if (store.invoke(0, procedure, a, b, c) < 0) {
            throw new IllegalStateException("the command was not taken");
        }
        stepEach(store);
        store.flush();
    }

    /** Lets every site work until nothing waits; at most four commands and a marker do at any time. */
    static void stepAll(PartitionedProcedureStore store) {
        for (int round = 0; round < 10 && stepEach(store); round++) {
            continue;
        }
    }

    private static boolean stepEach(PartitionedProcedureStore store) {
        boolean worked = false;
        for (int site = 0; site < 4; site++) {
            worked |= store.step(site) > PartitionedProcedureStore.IDLE;
        }
        return worked;
    }
}
