/** What the statements of a procedure do, and how a run ends (Terms: ROWS, PROCEDURES). */
public final class StatementTest {
    private static final int COMMITTED = PartitionedProcedureStore.COMMITTED;
    private static final int ABORTED = PartitionedProcedureStore.ABORTED;
    private static final int MIN = Integer.MIN_VALUE;
    private static final int MAX = Integer.MAX_VALUE;
    private static final int[] ROW_OPS = {Stores.GET, Stores.PUT, Stores.INSERT, Stores.DELETE};
    private static final Due due = new Due("StatementTest");

    public static void main(String[] args) {
        keysAre0To31();
        rowsHoldAnyInt();
        cellsAre0To7();
        cellsHoldAnyInt();
        registersHoldArgumentsAnd0();
        getReadsTheRow();
        getAbortsOnAnAbsentRow();
        putWritesPresentOrNot();
        insertAbortsOnARow();
        deleteAbortsOnAnAbsentRow();
        addWraps();
        setTakesAnyInt();
        needAbortsOnLess();
        skipPassesOverOn0();
        skipReachesTheEnd();
        loadReadsTheCell();
        storeWritesTheCell();
        outTakesFour();
        keysOutOfRangeAbort();
        cellsOutOfRangeAbort();
        singleStaysInItsPartition();
        multiReachesAllPartitions();
        runCommitsAfterTheLastStatement();
        abortTakesAllBack();
        abortHasNoOutput();
        faultIsTheStatementsNumber();
        due.end();
    }

    private static int[] s(int... statement) {
        return Stores.s(statement);
    }

    private static PartitionedProcedureStore with(int partitions, boolean multi, int[]... statements) {
        PartitionedProcedureStore store = Stores.usual(partitions);
        Stores.deploy(store, 5, multi, statements);
        return store;
    }

    private static void commits(PartitionedProcedureStore store, int a, int b, int c, long... output) {
        Stores.runNow(store, 5, a, b, c);
        String call = "command (" + a + ", " + b + ", " + c + ")";
        due.is("answer of " + call, store.answer(0), COMMITTED);
        due.is("how much " + call + " put out", store.output(0, -1), output.length);
        for (int i = 0; i < output.length; i++) {
            due.is("output " + i + " of " + call, store.output(0, i), output[i]);
        }
        due.is("output past the end of " + call, store.output(0, output.length), Due.NONE);
    }

    private static void aborts(PartitionedProcedureStore store, int a, int b, int c, int fault) {
        Stores.runNow(store, 5, a, b, c);
        String call = "command (" + a + ", " + b + ", " + c + ")";
        due.is("answer of " + call, store.answer(0), ABORTED);
        due.is("fault of " + call, store.output(0, -1), fault);
        due.is("output of " + call, store.output(0, 0), Due.NONE);
    }

    private static void keysAre0To31() {
        due.sentence("A key is 0 .. 31; its partition is key mod PARTITIONS");
        for (int partitions = 1; partitions <= 4; partitions++) {
            PartitionedProcedureStore store = with(partitions, true, s(Stores.PUT, 0, 1));
            for (int key = -1; key <= 32; key++) {
                Stores.runNow(store, 5, key, key, 0);
                due.is("answer of the command for key " + key, store.answer(0),
                    key >= 0 && key <= 31 ? COMMITTED : ABORTED);
            }
            for (int site = 0; site < partitions; site++) {
                due.is("rows(" + site + ") of " + partitions, store.rows(site), (31 - site) / partitions + 1);
            }
            due.is("row(0)", store.row(0), 0);
            due.is("row(31)", store.row(31), 31);
        }
    }

    private static void rowsHoldAnyInt() {
        due.sentence("the row of a key is absent or holds an int.");
        PartitionedProcedureStore store = with(2, false, s(Stores.PUT, 0, 1), s(Stores.GET, 3, 0), s(Stores.OUT, 3));
        for (int value : new int[] {MIN, -1, 0, 1, MAX, (int) Due.NONE}) {
            commits(store, 31, value, 0, value);
            due.is("row(31)", store.row(31), value);
            due.is("rows(1)", store.rows(1), 1);
        }
    }

    private static void cellsAre0To7() {
        due.sentence("Cells 0 .. 7 of the REPLICATED table hold ints, 0 at first.");
        PartitionedProcedureStore store = with(2, true, s(Stores.STORE, 0, 1));
        for (int cell = -1; cell <= 8; cell++) {
            Stores.runNow(store, 5, cell, 10 + cell, 0);
            due.is("answer of the command for cell " + cell, store.answer(0),
                cell >= 0 && cell <= 7 ? COMMITTED : ABORTED);
        }
        for (int cell = 0; cell <= 7; cell++) {
            due.is("replicated(" + cell + ")", store.replicated(cell), 10 + cell);
        }
    }

    private static void cellsHoldAnyInt() {
        due.sentence("Cells 0 .. 7 of the REPLICATED table hold ints, 0 at first.");
        PartitionedProcedureStore store = with(2, true, s(Stores.STORE, 0, 1), s(Stores.LOAD, 3, 0), s(Stores.OUT, 3));
        for (int value : new int[] {MIN, -1, 0, MAX, (int) Due.NONE}) {
            commits(store, 7, value, 0, value);
            due.is("replicated(7)", store.replicated(7), value);
        }
    }

    private static void registersHoldArgumentsAnd0() {
        due.sentence("It runs on six registers: 0, 1, 2 hold the three arguments, 3, 4, 5 hold 0.");
        PartitionedProcedureStore arguments = with(2, true, s(Stores.OUT, 0), s(Stores.OUT, 1), s(Stores.OUT, 2));
        commits(arguments, 1, 2, 3, 1, 2, 3);
        commits(arguments, MIN, MAX, -1, MIN, MAX, -1);
        PartitionedProcedureStore others = with(2, true, s(Stores.OUT, 3), s(Stores.OUT, 4), s(Stores.OUT, 5),
            s(Stores.SET, 3, 9), s(Stores.SET, 4, 9), s(Stores.SET, 5, 9));
        commits(others, 1, 2, 3, 0, 0, 0);
        commits(others, 1, 2, 3, 0, 0, 0);
    }

    private static void getReadsTheRow() {
        due.sentence("0 GET x y: register x becomes the row's value for the key in register y; the row is absent: aborts.");
        PartitionedProcedureStore store = with(2, false, s(Stores.SET, 4, 1), s(Stores.GET, 3, 0), s(Stores.OUT, 3));
        for (int value : new int[] {-5, 0, MIN, MAX}) {
            Stores.runNow(store, Stores.PUT_ONE, 6, value, 0);
            commits(store, 6, 0, 0, value);
            due.is("GET leaves the row", store.row(6), value);
        }
        PartitionedProcedureStore same = with(2, false, s(Stores.PUT, 0, 1), s(Stores.GET, 0, 0), s(Stores.OUT, 0));
        commits(same, 6, 8, 0, 8);
    }

    private static void getAbortsOnAnAbsentRow() {
        due.sentence("0 GET x y: register x becomes the row's value for the key in register y; the row is absent: aborts.");
        PartitionedProcedureStore store = with(2, false, s(Stores.SET, 4, 1), s(Stores.GET, 3, 0), s(Stores.OUT, 3));
        aborts(store, 6, 0, 0, 1);
        Stores.runNow(store, Stores.PUT_ONE, 6, 1, 0);
        aborts(store, 4, 0, 0, 1);
        Stores.runNow(store, Stores.REMOVE_ONE, 6, 0, 0);
        aborts(store, 6, 0, 0, 1);
        PartitionedProcedureStore deleted = with(1, false, s(Stores.PUT, 0, 1), s(Stores.DELETE, 0), s(Stores.GET, 3, 0));
        aborts(deleted, 6, 1, 0, 2);
    }

    private static void putWritesPresentOrNot() {
        due.sentence("1 PUT x y: the row of the key in register x becomes the value of register y, present or not before.");
        PartitionedProcedureStore store = with(2, false, s(Stores.PUT, 0, 1));
        commits(store, 31, 5, 0);
        due.is("row(31)", store.row(31), 5);
        commits(store, 31, -5, 0);
        due.is("row(31)", store.row(31), -5);
        due.is("rows(1)", store.rows(1), 1);
        due.is("row(29)", store.row(29), Due.NONE);
    }

    private static void insertAbortsOnARow() {
        due.sentence("2 INSERT x y: as PUT, but the row is there: aborts.");
        PartitionedProcedureStore store = with(2, false, s(Stores.INSERT, 0, 1));
        commits(store, 4, 0, 0);
        due.is("row(4), which holds 0", store.row(4), 0);
        aborts(store, 4, 8, 0, 0);
        due.is("row(4)", store.row(4), 0);
        Stores.runNow(store, Stores.REMOVE_ONE, 4, 0, 0);
        commits(store, 4, 9, 0);
        due.is("row(4)", store.row(4), 9);
        PartitionedProcedureStore twice = with(1, false, s(Stores.INSERT, 0, 1), s(Stores.SKIP, 2, 1),
            s(Stores.DELETE, 0), s(Stores.INSERT, 0, 1));
        aborts(twice, 4, 1, 0, 3);
        commits(twice, 4, 1, 1);
        due.is("row(4)", twice.row(4), 1);
    }

    private static void deleteAbortsOnAnAbsentRow() {
        due.sentence("3 DELETE x: the row of the key in register x becomes absent; it is absent: aborts.");
        PartitionedProcedureStore store = with(2, false, s(Stores.DELETE, 0));
        aborts(store, 3, 0, 0, 0);
        Stores.runNow(store, Stores.PUT_ONE, 3, 0, 0);
        due.is("rows(1)", store.rows(1), 1);
        commits(store, 3, 0, 0);
        due.is("row(3)", store.row(3), Due.NONE);
        due.is("rows(1)", store.rows(1), 0);
        aborts(store, 3, 0, 0, 0);
        PartitionedProcedureStore twice = with(1, false, s(Stores.PUT, 0, 1), s(Stores.DELETE, 0), s(Stores.DELETE, 0));
        aborts(twice, 3, 1, 0, 2);
    }

    private static void addWraps() {
        due.sentence("4 ADD x y z: register x becomes the sum of registers y and z, wrapping at 32 bits.");
        PartitionedProcedureStore store = with(1, false, s(Stores.ADD, 3, 1, 2), s(Stores.OUT, 3),
            s(Stores.ADD, 1, 1, 1), s(Stores.OUT, 1));
        commits(store, 0, 20, 22, 42, 40);
        commits(store, 0, MAX, 0, MAX, -2);
        commits(store, 0, MAX, 1, MIN, -2);
        commits(store, 0, MIN, -1, MAX, 0);
        commits(store, 0, MIN, MIN, 0, 0);
        commits(store, 0, MIN, MAX, -1, 0);
    }

    private static void setTakesAnyInt() {
        due.sentence("5 SET x y: register x becomes the int y.");
        for (int value : new int[] {MIN, -1, 0, 5, 6, MAX}) {
            commits(with(1, false, s(Stores.SET, 0, value), s(Stores.OUT, 0)), 3, 4, 5, value);
        }
    }

    private static void needAbortsOnLess() {
        due.sentence("6 NEED x y: register x is less than register y: aborts.");
        PartitionedProcedureStore store = with(1, false, s(Stores.OUT, 1), s(Stores.NEED, 1, 2));
        commits(store, 0, 5, 4, 5);
        commits(store, 0, 5, 5, 5);
        aborts(store, 0, 4, 5, 1);
        aborts(store, 0, -1, 0, 1);
        commits(store, 0, 0, -1, 0);
        aborts(store, 0, MIN, MAX, 1);
        commits(store, 0, MAX, MIN, MAX);
        aborts(store, 0, MIN, 1, 1);
        commits(store, 0, MIN, MIN, MIN);
    }

    private static void skipPassesOverOn0() {
        due.sentence("7 SKIP x y: register x is 0: the next y statements are passed over.");
        PartitionedProcedureStore store = with(1, false, s(Stores.SKIP, 1, 2), s(Stores.OUT, 1), s(Stores.SKIP, 2, 2),
            s(Stores.OUT, 2), s(Stores.OUT, 0));
        commits(store, 7, 1, 1, 1, 1, 7);
        commits(store, 7, 0, 1, 1, 7);
        commits(store, 7, -1, 0, -1);
        commits(store, 7, MIN, 0, MIN);
        commits(store, 7, 0, 0, 0, 7);
        PartitionedProcedureStore abortAfter = with(1, false, s(Stores.SKIP, 1, 1), s(Stores.GET, 3, 0), s(Stores.OUT, 0));
        commits(abortAfter, 7, 0, 0, 7);
        aborts(abortAfter, 7, 1, 0, 1);
    }

    private static void skipReachesTheEnd() {
        due.sentence("7 SKIP x y: register x is 0: the next y statements are passed over.");
        for (int y = 1; y <= 7; y++) {
            int[][] statements = new int[y + 1][];
            statements[0] = s(Stores.SKIP, 1, y);
            for (int i = 1; i <= y; i++) {
                statements[i] = s(i == y ? Stores.DELETE : Stores.SET, 0, 2);
            }
            PartitionedProcedureStore store = with(1, false, statements);
            commits(store, 3, 0, 0);
            aborts(store, 3, 1, 0, y);
        }
    }

    private static void loadReadsTheCell() {
        due.sentence("8 LOAD x y: register x becomes the REPLICATED cell whose number is in register y.");
        PartitionedProcedureStore store = with(3, false, s(Stores.LOAD, 3, 1), s(Stores.OUT, 3), s(Stores.LOAD, 1, 1),
            s(Stores.OUT, 1));
        Stores.runNow(store, Stores.STORE_CELL, 7, 77, 0);
        Stores.runNow(store, Stores.STORE_CELL, 0, -1, 0);
        for (int a = 0; a < 3; a++) {
            commits(store, a, 7, 0, 77, 77);
            commits(store, a, 0, 0, -1, -1);
            commits(store, a, 5, 0, 0, 0);
        }
        due.is("LOAD leaves the cell", store.replicated(7), 77);
    }

    private static void storeWritesTheCell() {
        due.sentence("9 STORE x y: the REPLICATED cell whose number is in register x becomes the value of register y.");
        PartitionedProcedureStore store = with(3, true, s(Stores.LOAD, 3, 0), s(Stores.STORE, 0, 1), s(Stores.LOAD, 4, 0),
            s(Stores.OUT, 3), s(Stores.OUT, 4));
        commits(store, 7, 77, 0, 0, 77);
        commits(store, 7, 78, 0, 77, 78);
        commits(store, 0, -1, 0, 0, -1);
        due.is("replicated(7)", store.replicated(7), 78);
        due.is("replicated(0)", store.replicated(0), -1);
        due.is("replicated(6)", store.replicated(6), 0);
    }

    private static void outTakesFour() {
        due.sentence("10 OUT x: register x is added to the OUTPUT; it has 4 ints already: aborts.");
        PartitionedProcedureStore store = with(1, false, s(Stores.OUT, 0), s(Stores.OUT, 1), s(Stores.OUT, 2),
            s(Stores.OUT, 5), s(Stores.SKIP, 2, 1), s(Stores.OUT, 0));
        commits(store, 1, 2, 0, 1, 2, 0, 0);
        aborts(store, 1, 2, 3, 5);
        commits(store, MAX, MIN, 0, MAX, MIN, 0, 0);
        PartitionedProcedureStore none = with(1, false, s(Stores.SET, 0, 1));
        commits(none, 1, 2, 3);
    }

    private static void keysOutOfRangeAbort() {
        due.sentence("A key out of 0 .. 31 or a cell out of 0 .. 7 aborts.");
        for (int mode = 0; mode < 2; mode++) {
            for (int op : ROW_OPS) {
                PartitionedProcedureStore store = with(1, mode == 1, s(Stores.SET, 5, 0), s(op, 0, 0));
                for (int key : new int[] {-1, 32, 33, -32, MIN, MAX}) {
                    aborts(store, key, 0, 0, 1);
                }
                due.is("rows(0)", store.rows(0), 0);
            }
        }
    }

    private static void cellsOutOfRangeAbort() {
        due.sentence("A key out of 0 .. 31 or a cell out of 0 .. 7 aborts.");
        int[] wrong = {-1, 8, 9, -8, MIN, MAX};
        PartitionedProcedureStore single = with(2, false, s(Stores.SET, 5, 0), s(Stores.LOAD, 3, 1));
        PartitionedProcedureStore load = with(2, true, s(Stores.SET, 5, 0), s(Stores.LOAD, 3, 1));
        PartitionedProcedureStore store = with(2, true, s(Stores.SET, 5, 1), s(Stores.STORE, 1, 5));
        for (int cell : wrong) {
            aborts(single, 0, cell, 0, 1);
            aborts(load, 0, cell, 0, 1);
            aborts(store, 0, cell, 0, 1);
        }
        for (int cell = 0; cell < 8; cell++) {
            due.is("replicated(" + cell + ")", store.replicated(cell), 0);
        }
    }

    private static void singleStaysInItsPartition() {
        due.sentence("In a SINGLE procedure a key of another partition than that of its command aborts.");
        for (int partitions = 1; partitions <= 4; partitions++) {
            for (int op : ROW_OPS) {
                for (int key = 24; key < 32; key++) {
                    PartitionedProcedureStore store = with(partitions, false, s(op, 1, 1));
                    for (int a = -4; a < 4; a++) {
                        keepsToItsPartition(store, partitions, op, key, a);
                    }
                }
            }
        }
    }

    private static void keepsToItsPartition(PartitionedProcedureStore store, int partitions, int op, int key, int a) {
        boolean there = op != Stores.INSERT;
        Stores.runNow(store, Stores.PUT_ONE, key, key, 0);
        if (!there) {
            Stores.runNow(store, Stores.REMOVE_ONE, key, 0, 0);
        }
        if (Math.floorMod(a, partitions) == key % partitions) {
            commits(store, a, key, 0);
        } else {
            aborts(store, a, key, 0, 0);
            due.is("row(" + key + ")", store.row(key), there ? key : Due.NONE);
        }
    }

    private static void multiReachesAllPartitions() {
        due.sentence("In a SINGLE procedure a key of another partition than that of its command aborts.");
        PartitionedProcedureStore store = with(4, true, s(Stores.INSERT, 0, 2), s(Stores.GET, 3, 1), s(Stores.DELETE, 1),
            s(Stores.OUT, 3));
        Stores.runNow(store, Stores.PUT_ONE, 10, 100, 0);
        commits(store, 13, 10, 7, 100);
        due.is("row(13)", store.row(13), 7);
        due.is("row(10)", store.row(10), Due.NONE);
    }

    private static void runCommitsAfterTheLastStatement() {
        due.sentence("The run ends after the last statement: it COMMITS, with its OUTPUT.");
        commits(with(1, false, s(Stores.OUT, 0)), 9, 0, 0, 9);
        commits(with(1, false, s(Stores.PUT, 0, 0), s(Stores.PUT, 0, 1), s(Stores.PUT, 0, 2), s(Stores.DELETE, 0),
            s(Stores.OUT, 0), s(Stores.OUT, 1), s(Stores.SET, 2, 6), s(Stores.OUT, 2)), 9, 8, 7, 9, 8, 6);
    }

    private static void abortTakesAllBack() {
        due.sentence("A statement that aborts ends the run: all rows and cells are as before the command");
        PartitionedProcedureStore store = with(2, true, s(Stores.STORE, 0, 2), s(Stores.PUT, 0, 2), s(Stores.DELETE, 1),
            s(Stores.PUT, 1, 2), s(Stores.OUT, 2), s(Stores.NEED, 2, 3), s(Stores.STORE, 0, 3));
        Stores.runNow(store, Stores.PUT_ONE, 6, 60, 0);
        Stores.runNow(store, Stores.STORE_CELL, 4, 44, 0);
        aborts(store, 4, 6, -1, 5);
        due.is("row(4), which was absent", store.row(4), Due.NONE);
        due.is("row(6), which was there", store.row(6), 60);
        due.is("replicated(4)", store.replicated(4), 44);
        aborts(store, 4, 7, 1, 2);
        due.is("row(4)", store.row(4), Due.NONE);
        due.is("row(6)", store.row(6), 60);
        due.is("replicated(4)", store.replicated(4), 44);
        due.is("rows(0)", store.rows(0), 1);
        commits(store, 4, 6, 1, 1);
        due.is("row(4)", store.row(4), 1);
        due.is("row(6)", store.row(6), 1);
        due.is("replicated(4)", store.replicated(4), 0);
        aborts(store, 4, 6, -1, 5);
        due.is("row(4), which the command before wrote", store.row(4), 1);
        due.is("row(6)", store.row(6), 1);
    }

    private static void abortHasNoOutput() {
        due.sentence("there is no OUTPUT, and the command's FAULT is the number of the statement.");
        PartitionedProcedureStore store = with(1, false, s(Stores.OUT, 0), s(Stores.OUT, 1), s(Stores.GET, 3, 0),
            s(Stores.OUT, 3));
        aborts(store, 1, 2, 3, 2);
        for (int i = 0; i < 5; i++) {
            due.is("output(0, " + i + ")", store.output(0, i), Due.NONE);
        }
        Stores.runNow(store, Stores.PUT_ONE, 1, 9, 0);
        commits(store, 1, 2, 3, 1, 2, 9);
    }

    private static void faultIsTheStatementsNumber() {
        due.sentence("there is no OUTPUT, and the command's FAULT is the number of the statement.");
        for (int place = 0; place < 8; place++) {
            int[][] statements = new int[8][];
            for (int i = 0; i < 8; i++) {
                statements[i] = i == place ? s(Stores.DELETE, 0) : s(Stores.SET, 5, 1);
            }
            aborts(with(2, place % 2 == 0, statements), 2, 0, 0, place);
        }
    }
}
