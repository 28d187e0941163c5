import java.util.Random;
import java.util.TreeMap;

/**
 * Long runs of calls, by chance but the same every time, compared with {@link Model} call by call. Each run ends with a look
 * at all that can be seen, inside the 512 calls of an object.
 */
public final class RandomRunsTest {
    private static final int RUNS = 3000;
    private static final int CALLS = 512;
    private static final int[] WILD = {Integer.MIN_VALUE, -33, -7, -1, 0, 1, 4, 6, 8, 11, 32, 48, 100, Integer.MAX_VALUE};
    private static final Due due = new Due("RandomRunsTest");
    private static final TreeMap<String, Integer> seen = new TreeMap<>();

    private final Random chance;
    private final int partitions;
    private final PartitionedProcedureStore store;
    private final Model model;
    private final int run;
    private int calls = 0;

    /** How often each kind of call comes, by the run: some have no snapshots, so that the log fills up. */
    private final int snapshots;
    private final int crashes;

    private RandomRunsTest(int run) {
        this.run = run;
        chance = new Random(run);
        partitions = chance.nextInt(20) == 0 ? wild() : 1 + chance.nextInt(4);
        store = new PartitionedProcedureStore(partitions);
        model = new Model(partitions);
        snapshots = new int[] {0, 2, 8}[chance.nextInt(3)];
        crashes = new int[] {0, 1, 4}[chance.nextInt(3)];
    }

    public static void main(String[] args) {
        for (int run = 0; run < RUNS; run++) {
            new RandomRunsTest(run).compare();
        }
        looksAtEnough();
        neverThrows();
        due.end();
    }

    private void compare() {
        for (int procedure = 0; procedure < 4; procedure++) {
            deploy(procedure);
        }
        while (calls < CALLS - 110) {
            anyCall();
        }
        lookAtAll();
    }

    private int wild() {
        return WILD[chance.nextInt(WILD.length)];
    }

    private int upTo(int bound) {
        return chance.nextInt(40) == 0 ? wild() : chance.nextInt(bound);
    }

    private void is(String name, int[] arguments, long got, long want) {
        calls++;
        due.is("run " + run + ", call " + calls + ", " + name + java.util.Arrays.toString(arguments), got, want);
        if (!name.equals("row") && !name.equals("replicated") && want < 5) {
            seen.merge(name + " " + want, 1, Integer::sum);
        }
    }

    private void deploy(int procedure) {
        boolean multi = chance.nextInt(3) == 0;
        open(procedure, multi);
        int length = 1 + chance.nextInt(8);
        for (int i = 0; i < length; i++) {
            addLikely(multi, length - i - 1);
        }
        is("deploy", new int[0], store.deploy(), model.deploy());
    }

    private void open(int procedure, boolean multi) {
        is("open", new int[] {procedure, multi ? 1 : 0}, store.open(procedure, multi), model.open(procedure, multi));
    }

    private void addLikely(boolean multi, int after) {
        int op = new int[] {0, 1, 1, 1, 2, 3, 4, 4, 5, 6, 7, 8, 9, 10, 10, 10}[chance.nextInt(16)];
        if (op == 9 && !multi || op == 7 && after == 0) {
            op = 10;
        }
        int x = chance.nextInt(6);
        int y = chance.nextInt(6);
        if (op == 7) {
            y = 1 + chance.nextInt(Math.min(after, 7));
        }
        if (op == 0 || op == 8) {
            y = chance.nextInt(2);
        }
        if (op >= 1 && op <= 3 || op == 9) {
            x = chance.nextInt(2);
        }
        if (op == 5) {
            y = chance.nextInt(3) == 0 ? wild() : chance.nextInt(12);
        }
        add(op, x, y, chance.nextInt(6));
    }

    private void add(int op, int x, int y, int z) {
        is("add", new int[] {op, x, y, z}, store.add(op, x, y, z), model.add(op, x, y, z));
    }

    private void anyCall() {
        int draw = chance.nextInt(200);
        if (draw < snapshots) {
            is("snapshot", new int[0], store.snapshot(), model.snapshot());
        } else if (draw < 8 + crashes) {
            if (draw >= 8) {
                is("crash", new int[0], store.crash(), model.crash());
            } else {
                draftCall();
            }
        } else if (draw < 60) {
            invoke();
        } else if (draw < 135) {
            int site = upTo(4);
            is("step", new int[] {site}, store.step(site), model.step(site));
        } else if (draw < 160) {
            is("flush", new int[0], store.flush(), model.flush());
        } else if (draw < 160 + snapshots * 2) {
            int site = upTo(4);
            int n = upTo(4) - 1;
            is("scan", new int[] {site, n}, store.scan(site, n), model.scan(site, n));
        } else {
            look();
        }
    }

    private void draftCall() {
        int draw = chance.nextInt(6);
        if (draw == 0) {
            open(upTo(6), chance.nextBoolean());
        } else if (draw == 1) {
            is("deploy", new int[0], store.deploy(), model.deploy());
        } else if (draw == 2) {
            add(upTo(11), upTo(6), upTo(6), upTo(6));
        } else {
            addLikely(chance.nextBoolean(), 1);
        }
    }

    private void invoke() {
        int[] v = {upTo(4), chance.nextInt(15) == 0 ? upTo(6) : chance.nextInt(4), upTo(12), upTo(12), upTo(6) - 2};
        is("invoke", v, store.invoke(v[0], v[1], v[2], v[3], v[4]), model.invoke(v[0], v[1], v[2], v[3], v[4]));
    }

    private void look() {
        switch (chance.nextInt(7)) {
            case 0:
                lookAtClient(upTo(4), upTo(6) - 1);
                break;
            case 1:
                int key = upTo(12);
                is("row", new int[] {key}, store.row(key), model.row(key));
                break;
            case 2:
                int cell = upTo(8);
                is("replicated", new int[] {cell}, store.replicated(cell), model.replicated(cell));
                break;
            case 3:
                lookAtSite(upTo(4));
                break;
            default:
                int what = upTo(6);
                is("count", new int[] {what}, store.count(what), model.count(what));
                break;
        }
    }

    private void lookAtClient(int client, int i) {
        is("answer", new int[] {client}, store.answer(client), model.answer(client));
        is("output", new int[] {client, i}, store.output(client, i), model.output(client, i));
    }

    private void lookAtSite(int site) {
        is("waiting", new int[] {site}, store.waiting(site), model.waiting(site));
        is("rows", new int[] {site}, store.rows(site), model.rows(site));
    }

    private void lookAtAll() {
        for (int what = 0; what < 6; what++) {
            is("count", new int[] {what}, store.count(what), model.count(what));
        }
        for (int client = 0; client < 4; client++) {
            for (int i = -1; i < 4; i++) {
                is("output", new int[] {client, i}, store.output(client, i), model.output(client, i));
            }
            is("answer", new int[] {client}, store.answer(client), model.answer(client));
        }
        for (int site = 0; site < 4; site++) {
            lookAtSite(site);
        }
        for (int key = 0; key < 32; key++) {
            is("row", new int[] {key}, store.row(key), model.row(key));
        }
        for (int cell = 0; cell < 8; cell++) {
            is("replicated", new int[] {cell}, store.replicated(cell), model.replicated(cell));
        }
        due.holds("the run stays inside the calls of an object", calls <= CALLS);
    }

    /** A comparison in which some answer never comes would say less than it seems to. */
    private static void looksAtEnough() {
        String[] wanted = {"open -1", "open 0", "add -2", "add -1", "add 0", "deploy -3", "deploy -1", "deploy 0",
            "invoke -2", "invoke -1", "invoke 1", "step -1", "step 0", "step 1", "step 2", "step 3", "snapshot -1",
            "snapshot 1", "scan -1", "scan 0", "scan 1", "scan 2", "crash 0", "crash 1", "answer -1", "answer 0", "answer 1",
            "answer 2", "answer 3", "answer 4", "output 0", "output 1", "waiting -1", "waiting 3", "rows -1", "rows 3"};
        for (String answer : wanted) {
            due.holds("the runs have the answer " + answer + " often", seen.getOrDefault(answer, 0) >= 20);
        }
    }

    /** The language's rule 7, past the 512th call too: no call ever throws, whatever it is given. */
    private static void neverThrows() {
        Random chance = new Random(7);
        PartitionedProcedureStore store = Stores.usual(3);
        for (int i = 0; i < 200000; i++) {
            int[] call = new int[6];
            call[0] = chance.nextInt(Calls.COUNT + 1);
            // Were a crash as frequent as the other calls, too little would stand for them to go wrong on.
            if (call[0] == Calls.CRASH && chance.nextInt(20) != 0) {
                call[0] = Calls.INVOKE;
            }
            for (int k = 1; k < call.length; k++) {
                call[k] = chance.nextBoolean() ? WILD[chance.nextInt(WILD.length)] : chance.nextInt(6);
            }
            Calls.on(store, call);
        }
        due.holds("no call throws", true);
    }
}
