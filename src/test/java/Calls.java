import java.util.Arrays;

/** A call as an array, its kind and then its arguments, so that the same calls can be made on a store and on a model. */
final class Calls {
    static final int OPEN = 0;
    static final int ADD = 1;
    static final int DEPLOY = 2;
    static final int INVOKE = 3;
    static final int STEP = 4;
    static final int FLUSH = 5;
    static final int SNAPSHOT = 6;
    static final int SCAN = 7;
    static final int CRASH = 8;
    static final int ANSWER = 9;
    static final int OUTPUT = 10;
    static final int ROW = 11;
    static final int REPLICATED = 12;
    static final int WAITING = 13;
    static final int ROWS = 14;
    static final int COUNT = 15;

    private static final String[] NAMES = {"open", "add", "deploy", "invoke", "step", "flush", "snapshot", "scan", "crash",
        "answer", "output", "row", "replicated", "waiting", "rows", "count"};

    private Calls() {
    }

    static int[] call(int kind, int... arguments) {
        int[] made = new int[arguments.length + 1];
        made[0] = kind;
        System.arraycopy(arguments, 0, made, 1, arguments.length);
        return made;
    }

    static String text(int[] call) {
        return NAMES[call[0]] + Arrays.toString(Arrays.copyOfRange(call, 1, call.length));
    }

    static long on(PartitionedProcedureStore store, int[] c) {
        switch (c[0]) {
            case OPEN: return store.open(c[1], c[2] != 0);
            case ADD: return store.add(c[1], c[2], c[3], c[4]);
            case DEPLOY: return store.deploy();
            case INVOKE: return store.invoke(c[1], c[2], c[3], c[4], c[5]);
            case STEP: return store.step(c[1]);
            case FLUSH: return store.flush();
            case SNAPSHOT: return store.snapshot();
            case SCAN: return store.scan(c[1], c[2]);
            case CRASH: return store.crash();
            case ANSWER: return store.answer(c[1]);
            case OUTPUT: return store.output(c[1], c[2]);
            case ROW: return store.row(c[1]);
            case REPLICATED: return store.replicated(c[1]);
            case WAITING: return store.waiting(c[1]);
            case ROWS: return store.rows(c[1]);
            case COUNT: return store.count(c[1]);
            default: throw new IllegalArgumentException("no such call");
        }
    }

    static long on(Model model, int[] c) {
        switch (c[0]) {
            case OPEN: return model.open(c[1], c[2] != 0);
            case ADD: return model.add(c[1], c[2], c[3], c[4]);
            case DEPLOY: return model.deploy();
            case INVOKE: return model.invoke(c[1], c[2], c[3], c[4], c[5]);
            case STEP: return model.step(c[1]);
            case FLUSH: return model.flush();
            case SNAPSHOT: return model.snapshot();
            case SCAN: return model.scan(c[1], c[2]);
            case CRASH: return model.crash();
            case ANSWER: return model.answer(c[1]);
            case OUTPUT: return model.output(c[1], c[2]);
            case ROW: return model.row(c[1]);
            case REPLICATED: return model.replicated(c[1]);
            case WAITING: return model.waiting(c[1]);
            case ROWS: return model.rows(c[1]);
            case COUNT: return model.count(c[1]);
            default: throw new IllegalArgumentException("no such call");
        }
    }
}
