/** Promises 13, 14, 16 and 17: row, replicated, rows, count; and how many calls an object is made for. */
public final class LookTest {
    private static final int REFUSED = PartitionedProcedureStore.REFUSED;
    private static final int MIN = Integer.MIN_VALUE;
    private static final int MAX = Integer.MAX_VALUE;
    private static final Due due = new Due("LookTest");

    public static void main(String[] args) {
        rowOfAKeyOutOfRange();
        rowIsAsItIsNow();
        cellOutOfRange();
        cellIsAsItIsNow();
        rowsRefusesSitesOutOfRange();
        rowsAreCounted();
        countRefusesOthers();
        countTellsSixThings();
        countOfTheLastNumber();
        countOfTheCommandStalledAt();
        the512thCallIsAnswered();
        due.end();
    }

    private static void rowOfAKeyOutOfRange() {
        due.sentence("The row as it is now: its value; absent or a key out of range: NONE.");
        PartitionedProcedureStore store = Stores.usual(2);
        Stores.runNow(store, Stores.PUT_TWO, 0, 31, 7);
        due.is("row(0)", store.row(0), 7);
        due.is("row(31)", store.row(31), 7);
        due.is("row(30), absent", store.row(30), Due.NONE);
        for (int key : new int[] {MIN, -1, -32, 32, 33, 64, MAX}) {
            due.is("row(" + key + ")", store.row(key), Due.NONE);
        }
    }

    private static void rowIsAsItIsNow() {
        due.sentence("The row as it is now: its value; absent or a key out of range: NONE.");
        PartitionedProcedureStore store = Stores.usual(2);
        store.invoke(0, Stores.PUT_ONE, 4, 0, 0);
        due.is("row(4), its command waits", store.row(4), Due.NONE);
        store.step(0);
        due.is("row(4), its command is done and not durable", store.row(4), 0);
        store.invoke(1, Stores.REMOVE_ONE, 4, 0, 0);
        store.step(0);
        due.is("row(4), deleted", store.row(4), Due.NONE);
    }

    private static void cellOutOfRange() {
        due.sentence("The REPLICATED cell as it is now; NONE if out of 0 .. 7.");
        PartitionedProcedureStore store = Stores.usual(2);
        Stores.runNow(store, Stores.STORE_CELL, 0, 8, 0);
        Stores.runNow(store, Stores.STORE_CELL, 7, -8, 0);
        due.is("replicated(0)", store.replicated(0), 8);
        due.is("replicated(7)", store.replicated(7), -8);
        for (int cell : new int[] {MIN, -1, -8, 8, 9, MAX}) {
            due.is("replicated(" + cell + ")", store.replicated(cell), Due.NONE);
        }
    }

    private static void cellIsAsItIsNow() {
        due.sentence("The REPLICATED cell as it is now; NONE if out of 0 .. 7.");
        PartitionedProcedureStore store = Stores.usual(2);
        store.invoke(0, Stores.STORE_CELL, 4, 9, 0);
        store.step(1);
        due.is("replicated(4), a site is STALLED at its command", store.replicated(4), 0);
        store.step(0);
        due.is("replicated(4), done and not durable", store.replicated(4), 9);
    }

    private static void rowsRefusesSitesOutOfRange() {
        due.sentence("How many rows of the partition are there; REFUSED for a site out of range.");
        for (int partitions = 1; partitions <= 4; partitions++) {
            PartitionedProcedureStore store = Stores.usual(partitions);
            Stores.runNow(store, Stores.PUT_TWO, 30, 31, 7);
            for (int site : new int[] {MIN, -1, partitions, partitions + 1, 5, MAX}) {
                due.is("rows(" + site + ") of " + partitions, store.rows(site), REFUSED);
            }
        }
    }

    private static void rowsAreCounted() {
        due.sentence("How many rows of the partition are there; REFUSED for a site out of range.");
        for (int partitions = 1; partitions <= 4; partitions++) {
            PartitionedProcedureStore store = Stores.usual(partitions);
            int[] want = new int[partitions];
            for (int key = 0; key < 32; key++) {
                Stores.runNow(store, Stores.PUT_ONE, key, 0, 0);
                want[key % partitions]++;
                for (int site = 0; site < partitions; site++) {
                    due.is("rows(" + site + ") of " + partitions, store.rows(site), want[site]);
                }
            }
            Stores.runNow(store, Stores.PUT_ONE, 31, 1, 0);
            due.is("rows after a PUT of a row that is there", store.rows(31 % partitions), want[31 % partitions]);
            Stores.runNow(store, Stores.REMOVE_ONE, 31, 0, 0);
            due.is("rows after a DELETE", store.rows(31 % partitions), want[31 % partitions] - 1);
        }
    }

    private static void countRefusesOthers() {
        due.sentence("0 if there is none; else REFUSED.");
        PartitionedProcedureStore store = Stores.usual(2);
        store.invoke(0, Stores.PUT_ONE, 0, 0, 0);
        for (int what : new int[] {MIN, -1, 6, 7, MAX}) {
            due.is("count(" + what + ")", store.count(what), REFUSED);
        }
    }

    private static void countTellsSixThings() {
        due.sentence("1: DURABLE; 2: commands in the LOG; 3: the marker's number of the last COMPLETE snapshot, 0 if there was none; 4: the marker's number of the snapshot under way, 0 if there is none");
        PartitionedProcedureStore store = Stores.usual(2);
        store.snapshot();
        Stores.stepAll(store);
        counts(store, 1, 1, 0, 1, 0, 0);
        store.invoke(0, Stores.PUT_TWO, 0, 1, 2);
        store.invoke(1, Stores.PUT_TWO, 0, 1, 2);
        store.snapshot();
        store.flush();
        store.invoke(2, Stores.PUT_ONE, 0, 1, 2);
        store.step(0);
        counts(store, 5, 4, 3, 1, 4, 2);
        store.crash();
        counts(store, 4, 4, 2, 1, 0, 0);
    }

    private static void counts(PartitionedProcedureStore store, int... want) {
        for (int what = 0; what < want.length; what++) {
            due.is("count(" + what + ")", store.count(what), want[what]);
        }
    }

    private static void countOfTheLastNumber() {
        due.sentence("What 0: the number of the last command or marker (0 at first; after a crash DURABLE)");
        PartitionedProcedureStore store = Stores.usual(2);
        due.is("count(0) at first", store.count(0), 0);
        store.invoke(0, Stores.PUT_ONE, 0, 1, 2);
        due.is("count(0), of a command", store.count(0), 1);
        store.snapshot();
        due.is("count(0), of a marker", store.count(0), 2);
        store.snapshot();
        store.invoke(0, Stores.PUT_ONE, 0, 1, 2);
        due.is("count(0) after refused calls", store.count(0), 2);
        store.crash();
        due.is("count(0) after a crash, DURABLE is 0", store.count(0), 0);
        store.invoke(0, Stores.PUT_ONE, 0, 1, 2);
        store.flush();
        store.invoke(1, Stores.PUT_ONE, 0, 1, 2);
        store.crash();
        due.is("count(0) after a crash, DURABLE is 1", store.count(0), 1);
    }

    private static void countOfTheCommandStalledAt() {
        due.sentence("5: the number of the MULTI command that at least one site is STALLED at, 0 if there is none");
        for (int site = 0; site < 4; site++) {
            PartitionedProcedureStore store = Stores.usual(4);
            store.invoke(0, Stores.PUT_ONE, 0, 1, 2);
            store.step(0);
            due.is("count(5) after a SINGLE command", store.count(5), 0);
            store.invoke(1, Stores.PUT_TWO, 0, 1, 2);
            store.invoke(2, Stores.PUT_TWO, 0, 1, 2);
            due.is("count(5), no site has come", store.count(5), 0);
            store.step(site);
            due.is("count(5), site " + site + " has come", store.count(5), 2);
            for (int other = 0; other < 4; other++) {
                if (other != site) {
                    store.step(other);
                }
            }
            due.is("count(5), done", store.count(5), 0);
            store.step(site);
            due.is("count(5), at the next one", store.count(5), 3);
        }
    }

    private static void the512thCallIsAnswered() {
        due.sentence("An object is used for at most 512 calls after it has been made");
        PartitionedProcedureStore store = new PartitionedProcedureStore(1);
        Stores.deploy(store, 0, false, Stores.s(Stores.PUT, 0, 1), Stores.s(Stores.OUT, 1));
        int number = 0;
        for (int round = 1; round <= 63; round++) {
            number++;
            due.is("invoke in round " + round, store.invoke(round % 4, 0, round % 32, round, 0), number);
            due.is("step", store.step(0), PartitionedProcedureStore.RAN);
            due.is("flush", store.flush(), number);
            due.is("output", store.output(round % 4, 0), round);
            number++;
            due.is("snapshot", store.snapshot(), number);
            due.is("step", store.step(0), PartitionedProcedureStore.MARKED);
            due.is("scan", store.scan(0, 32), 0);
            due.is("count(3)", store.count(3), number);
        }
        due.is("call 509: crash", store.crash(), 126);
        due.is("call 510: row", store.row(31), 63);
        due.is("call 511: rows", store.rows(0), 32);
        due.is("call 512: invoke", store.invoke(0, 0, 0, 0, 0), 127);
    }
}
