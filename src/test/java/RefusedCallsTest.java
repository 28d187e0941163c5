import java.util.ArrayList;
import java.util.List;

/**
 * A refused call changes nothing. In each of many situations, each of many calls is made on an object of its own; where it
 * is refused or FULL, or only looks, all that the object answers afterwards must be what one without that call answers.
 */
public final class RefusedCallsTest {
    private static final int PARTITIONS = 3;
    private static final int CALLS_OF_AN_OBJECT = 512;
    private static final int[] WIDE = {Integer.MIN_VALUE, -1, 0, 1, 2, 3, 4, 5, 6, Integer.MAX_VALUE};
    private static final Due due = new Due("RefusedCallsTest");

    private final List<int[]> situation = new ArrayList<>();

    public static void main(String[] args) {
        due.sentence("A refused call changes nothing.");
        List<int[]> tried = tried();
        List<int[]> afterwards = afterwards();
        int[] unchanging = new int[Calls.COUNT + 1];
        for (RefusedCallsTest test : situations()) {
            test.compare(tried, afterwards, unchanging);
        }
        for (int kind : new int[] {Calls.OPEN, Calls.ADD, Calls.DEPLOY, Calls.INVOKE, Calls.STEP, Calls.SNAPSHOT, Calls.SCAN}) {
            due.holds("calls of kind " + kind + " are refused here", unchanging[kind] >= 3);
        }
        due.end();
    }

    private void compare(List<int[]> tried, List<int[]> afterwards, int[] unchanging) {
        due.holds("the object is not used too long", situation.size() + 1 + afterwards.size() <= CALLS_OF_AN_OBJECT);
        PartitionedProcedureStore left = new PartitionedProcedureStore(PARTITIONS);
        for (int[] call : situation) {
            Calls.on(left, call);
        }
        long[] want = answers(left, afterwards);
        for (int[] call : tried) {
            PartitionedProcedureStore store = new PartitionedProcedureStore(PARTITIONS);
            Model model = new Model(PARTITIONS);
            for (int[] before : situation) {
                Calls.on(store, before);
                Calls.on(model, before);
            }
            long answer = Calls.on(model, call);
            due.is(Calls.text(call), Calls.on(store, call), answer);
            if (answer == PartitionedProcedureStore.REFUSED || answer == PartitionedProcedureStore.FULL
                || call[0] >= Calls.ANSWER) {
                unchanging[call[0]]++;
                isUnchanged(call, answers(store, afterwards), want, afterwards);
            }
        }
    }

    private static long[] answers(PartitionedProcedureStore store, List<int[]> calls) {
        long[] got = new long[calls.size()];
        for (int i = 0; i < got.length; i++) {
            got[i] = Calls.on(store, calls.get(i));
        }
        return got;
    }

    private static void isUnchanged(int[] call, long[] got, long[] want, List<int[]> afterwards) {
        for (int i = 0; i < want.length; i++) {
            due.is(Calls.text(afterwards.get(i)) + " after " + Calls.text(call), got[i], want[i]);
        }
    }

    /** All calls with arguments of which each is out of range, on an edge or inside, and one wrong operand at a time. */
    private static List<int[]> tried() {
        List<int[]> calls = new ArrayList<>();
        calls.add(Calls.call(Calls.DEPLOY));
        calls.add(Calls.call(Calls.SNAPSHOT));
        for (int first : WIDE) {
            for (int kind : new int[] {Calls.STEP, Calls.ANSWER, Calls.ROW, Calls.REPLICATED, Calls.WAITING, Calls.ROWS,
                Calls.COUNT}) {
                calls.add(Calls.call(kind, first));
            }
            for (int second : WIDE) {
                calls.add(Calls.call(Calls.INVOKE, first, second, 1, 1, 1));
                calls.add(Calls.call(Calls.SCAN, first, second));
                calls.add(Calls.call(Calls.OUTPUT, first, second));
            }
            calls.add(Calls.call(Calls.OPEN, first, 0));
            calls.add(Calls.call(Calls.OPEN, first, 1));
        }
        for (int op = -1; op <= 11; op++) {
            calls.add(Calls.call(Calls.ADD, op, 1, 1, 1));
            calls.add(Calls.call(Calls.ADD, op, 6, 1, 1));
            calls.add(Calls.call(Calls.ADD, op, 1, -1, 1));
            calls.add(Calls.call(Calls.ADD, op, 1, 8, 1));
            calls.add(Calls.call(Calls.ADD, op, 1, 1, 6));
        }
        return calls;
    }

    /** A look at all, then work that tells what cannot be seen (the draft, what waits, the parts, the log), then more looks. */
    private static List<int[]> afterwards() {
        List<int[]> calls = new ArrayList<>();
        look(calls);
        calls.add(Calls.call(Calls.ADD, Stores.OUT, 2, 0, 0));
        calls.add(Calls.call(Calls.DEPLOY));
        for (int client = 0; client < 4; client++) {
            calls.add(Calls.call(Calls.INVOKE, client, 5 - client, client, 9, 5));
        }
        for (int site = 0; site < PARTITIONS; site++) {
            calls.add(Calls.call(Calls.SCAN, site, 1));
        }
        for (int round = 0; round < 6; round++) {
            for (int site = 0; site < PARTITIONS; site++) {
                calls.add(Calls.call(Calls.STEP, site));
            }
        }
        for (int site = 0; site < PARTITIONS; site++) {
            calls.add(Calls.call(Calls.SCAN, site, 32));
        }
        look(calls);
        calls.add(Calls.call(Calls.CRASH));
        look(calls);
        return calls;
    }

    private static void look(List<int[]> calls) {
        for (int what = 0; what < 6; what++) {
            calls.add(Calls.call(Calls.COUNT, what));
        }
        for (int client = 0; client < 4; client++) {
            calls.add(Calls.call(Calls.ANSWER, client));
            calls.add(Calls.call(Calls.OUTPUT, client, -1));
            calls.add(Calls.call(Calls.OUTPUT, client, 0));
        }
        for (int site = 0; site < PARTITIONS; site++) {
            calls.add(Calls.call(Calls.WAITING, site));
            calls.add(Calls.call(Calls.ROWS, site));
        }
        for (int key = 0; key < 32; key++) {
            calls.add(Calls.call(Calls.ROW, key));
        }
        for (int cell = 0; cell < 8; cell++) {
            calls.add(Calls.call(Calls.REPLICATED, cell));
        }
    }

    private static List<RefusedCallsTest> situations() {
        List<RefusedCallsTest> all = new ArrayList<>();
        all.add(new RefusedCallsTest());
        all.add(new RefusedCallsTest().procedures());
        all.add(new RefusedCallsTest().procedures().draft(false, 0));
        all.add(new RefusedCallsTest().procedures().draft(true, 3));
        all.add(new RefusedCallsTest().procedures().draft(false, 8));
        all.add(new RefusedCallsTest().procedures().rows(4).outcomes());
        all.add(new RefusedCallsTest().procedures().draft(true, 1).rows(4).pending());
        all.add(new RefusedCallsTest().procedures().rows(4).pending().steps(1));
        all.add(new RefusedCallsTest().procedures().rows(9).snapshot().pending().steps(1).scans(1));
        all.add(new RefusedCallsTest().procedures().rows(9).snapshot().pending().steps(3).scans(2));
        all.add(new RefusedCallsTest().procedures().rows(9).snapshot().steps(3).scans(9).pending().steps(2));
        all.add(new RefusedCallsTest().procedures().rows(9).snapshot().pending().steps(2).crash());
        all.add(new RefusedCallsTest().procedures().rows(48));
        all.add(new RefusedCallsTest().procedures().rows(45).snapshot().pending().steps(1).scans(1));
        return all;
    }

    private RefusedCallsTest then(int kind, int... arguments) {
        situation.add(Calls.call(kind, arguments));
        return this;
    }

    /** Procedure 0 puts one row and puts it out, 1 deletes one, 2 writes two rows and a cell and is MULTI. */
    private RefusedCallsTest procedures() {
        then(Calls.OPEN, 0, 0).then(Calls.ADD, Stores.PUT, 0, 1, 0).then(Calls.ADD, Stores.OUT, 1, 0, 0).then(Calls.DEPLOY);
        then(Calls.OPEN, 1, 0).then(Calls.ADD, Stores.DELETE, 0, 0, 0).then(Calls.DEPLOY);
        then(Calls.OPEN, 2, 1).then(Calls.ADD, Stores.PUT, 0, 2, 0).then(Calls.ADD, Stores.PUT, 1, 2, 0);
        return then(Calls.ADD, Stores.STORE, 0, 2, 0).then(Calls.DEPLOY);
    }

    private RefusedCallsTest draft(boolean multi, int statements) {
        then(Calls.OPEN, 4, multi ? 1 : 0);
        for (int i = 0; i < statements; i++) {
            then(Calls.ADD, Stores.SET, 3, i, 0);
        }
        return this;
    }

    private RefusedCallsTest rows(int commands) {
        for (int i = 0; i < commands; i++) {
            then(Calls.INVOKE, 3, 0, i % 11, 100 + i, 0).then(Calls.STEP, i % 11 % PARTITIONS).then(Calls.FLUSH);
        }
        return this;
    }

    /** Client 0 COMMITTED, 1 ABORTED, 2 LOST. */
    private RefusedCallsTest outcomes() {
        then(Calls.INVOKE, 2, 0, 0, 7, 0).then(Calls.CRASH);
        then(Calls.INVOKE, 0, 0, 0, 7, 0).then(Calls.INVOKE, 1, 1, 31, 0, 0);
        return then(Calls.STEP, 0).then(Calls.STEP, 1).then(Calls.FLUSH);
    }

    private RefusedCallsTest pending() {
        return then(Calls.INVOKE, 0, 0, 0, 70, 0).then(Calls.INVOKE, 1, 2, 1, 2, 71).then(Calls.INVOKE, 2, 1, 0, 0, 0);
    }

    private RefusedCallsTest snapshot() {
        return then(Calls.SNAPSHOT);
    }

    private RefusedCallsTest steps(int rounds) {
        for (int round = 0; round < rounds; round++) {
            then(Calls.STEP, 0).then(Calls.STEP, 1);
        }
        return rounds > 1 ? then(Calls.STEP, 2) : this;
    }

    private RefusedCallsTest scans(int n) {
        return then(Calls.SCAN, 0, n).then(Calls.SCAN, 1, n).then(Calls.SCAN, 2, n);
    }

    private RefusedCallsTest crash() {
        return then(Calls.CRASH);
    }
}
