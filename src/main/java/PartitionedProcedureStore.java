import java.util.ArrayList;
import java.util.Arrays;

public final class PartitionedProcedureStore {
    public static final int REFUSED = -1;
    public static final int FULL = -2;
    public static final int BAD = -3;
    public static final int DONE = 0;
    public static final int IDLE = 0;
    public static final int RAN = 1;
    public static final int STALLED = 2;
    public static final int MARKED = 3;
    public static final int FREE = 0;
    public static final int PENDING = 1;
    public static final int COMMITTED = 2;
    public static final int ABORTED = 3;
    public static final int LOST = 4;
    public static final long NONE = 1000000000000L;

    private static final int MAX_PARTITIONS = 4;
    private static final int KEYS = 32;
    private static final int CELLS = 8;
    private static final int PROCEDURES = 6;
    private static final int MAX_STATEMENTS = 8;
    private static final int MAX_SKIP = 7;
    private static final int REGISTERS = 6;
    private static final int CLIENTS = 4;
    private static final int MAX_LOG = 48;
    private static final int MAX_OUTPUT = 4;
    private static final int NO_CLIENT = -1;

    private static final int GET = 0;
    private static final int PUT = 1;
    private static final int INSERT = 2;
    private static final int DELETE = 3;
    private static final int ADD = 4;
    private static final int SET = 5;
    private static final int NEED = 6;
    private static final int SKIP = 7;
    private static final int LOAD = 8;
    private static final int STORE = 9;
    private static final int OUT = 10;

    private final int partitions;
    private final Procedure[] procedures = new Procedure[PROCEDURES];
    private Procedure draft = null;
    private final Site[] sites;
    private final Client[] clients = new Client[CLIENTS];
    private final ArrayList<Task> log = new ArrayList<>();
    private final Runner runner;
    private final Table complete = new Table();
    private int completeMarker = 0;
    private final Table underWay = new Table();
    private int underWayMarker = 0;
    private int lastNumber = 0;
    private int durable = 0;

    public PartitionedProcedureStore(int partitions) {
        this.partitions = Math.max(1, Math.min(MAX_PARTITIONS, partitions));
        runner = new Runner(this.partitions);
        for (int i = 0; i < PROCEDURES; i++) {
            procedures[i] = new Procedure();
        }
        for (int i = 0; i < CLIENTS; i++) {
            clients[i] = new Client();
        }
        sites = new Site[this.partitions];
        for (int i = 0; i < this.partitions; i++) {
            sites[i] = new Site();
        }
    }

    public int open(int procedure, boolean multi) {
        if (!isWithin(procedure, PROCEDURES) || procedures[procedure].deployed) {
            return REFUSED;
        }
        // A procedure that is not deployed is never run, so its place can hold the draft.
        draft = procedures[procedure];
        draft.restart(multi);
        return DONE;
    }

    public int add(int op, int x, int y, int z) {
        if (draft == null || !isStatement(op, x, y, z)) {
            return REFUSED;
        }
        int number = draft.statements.size();
        if (number >= MAX_STATEMENTS) {
            return FULL;
        }
        draft.statements.add(new Statement(op, x, y, z));
        return number;
    }

    public int deploy() {
        if (draft == null) {
            return REFUSED;
        }
        Procedure ended = draft;
        draft = null;
        if (!ended.isSound()) {
            return BAD;
        }
        ended.deployed = true;
        return DONE;
    }

    public int invoke(int client, int procedure, int a, int b, int c) {
        if (!isWithin(client, CLIENTS) || clients[client].state == PENDING) {
            return REFUSED;
        }
        if (!isWithin(procedure, PROCEDURES) || !procedures[procedure].deployed) {
            return REFUSED;
        }
        if (log.size() >= MAX_LOG) {
            return FULL;
        }
        lastNumber++;
        Task command = new Task(lastNumber, client, procedures[procedure], a, b, c);
        log.add(command);
        clients[client].begin(lastNumber);
        if (command.procedure.multi) {
            waitAtAllSites(command);
        } else {
            sites[command.home(partitions)].queue.add(command);
        }
        return lastNumber;
    }

    public int step(int site) {
        if (!isWithin(site, partitions)) {
            return REFUSED;
        }
        Task next = sites[site].first();
        if (next == null) {
            return IDLE;
        }
        if (next.procedure == null) {
            comeToMarker(site);
            return MARKED;
        }
        if (next.procedure.multi) {
            sites[site].stalled = true;
            if (!areAllStalled()) {
                return STALLED;
            }
            passOnAtAllSites();
        } else {
            sites[site].passOn();
        }
        finish(next);
        return RAN;
    }

    public int flush() {
        raiseDurable(lastNumber);
        return durable;
    }

    public int snapshot() {
        if (underWayMarker != 0) {
            return REFUSED;
        }
        lastNumber++;
        underWayMarker = lastNumber;
        for (Site site : sites) {
            site.marked = false;
        }
        waitAtAllSites(new Task(lastNumber, NO_CLIENT, null, 0, 0, 0));
        return lastNumber;
    }

    public int scan(int site, int n) {
        if (!isWithin(site, partitions) || underWayMarker == 0 || !sites[site].marked) {
            return REFUSED;
        }
        Site scanned = sites[site];
        // The values were set aside when the site came to the marker, so that later writes cannot reach them.
        scanned.rowsLeft -= Math.min(Math.max(n, 0), scanned.rowsLeft);
        completeSnapshotIfCopied();
        return scanned.rowsLeft;
    }

    public int crash() {
        for (Site site : sites) {
            site.restart();
        }
        underWayMarker = 0;
        for (Client client : clients) {
            client.lose();
        }
        dropLogAbove(durable);
        lastNumber = durable;
        runner.live.copyFrom(complete);
        for (int i = 0; i < log.size(); i++) {
            // Their clients have their answers already or are LOST, so none is told again.
            runner.run(log.get(i));
        }
        return durable;
    }

    public int answer(int client) {
        return isWithin(client, CLIENTS) ? clients[client].state : REFUSED;
    }

    public long output(int client, int i) {
        return isWithin(client, CLIENTS) ? clients[client].tell(i) : NONE;
    }

    public long row(int key) {
        return isWithin(key, KEYS) ? runner.live.values[key] : NONE;
    }

    public long replicated(int cell) {
        return isWithin(cell, CELLS) ? runner.live.cells[cell] : NONE;
    }

    public int waiting(int site) {
        return isWithin(site, partitions) ? sites[site].queue.size() : REFUSED;
    }

    public int rows(int site) {
        return isWithin(site, partitions) ? runner.live.countPart(site, partitions) : REFUSED;
    }

    public int count(int what) {
        switch (what) {
            case 0:
                return lastNumber;
            case 1:
                return durable;
            case 2:
                return log.size();
            case 3:
                return completeMarker;
            case 4:
                return underWayMarker;
            case 5:
                return stalledNumber();
            default:
                return REFUSED;
        }
    }

    private static boolean isWithin(int number, int bound) {
        return number >= 0 && number < bound;
    }

    private static boolean isStatement(int op, int x, int y, int z) {
        switch (op) {
            case DELETE:
            case SET:
            case OUT:
                return isWithin(x, REGISTERS);
            case SKIP:
                return isWithin(x, REGISTERS) && y >= 1 && y <= MAX_SKIP;
            case GET:
            case PUT:
            case INSERT:
            case NEED:
            case LOAD:
            case STORE:
                return isWithin(x, REGISTERS) && isWithin(y, REGISTERS);
            case ADD:
                return isWithin(x, REGISTERS) && isWithin(y, REGISTERS) && isWithin(z, REGISTERS);
            default:
                return false;
        }
    }

    private void waitAtAllSites(Task task) {
        for (Site site : sites) {
            site.queue.add(task);
        }
    }

    private boolean areAllStalled() {
        for (Site site : sites) {
            if (!site.stalled) {
                return false;
            }
        }
        return true;
    }

    private void passOnAtAllSites() {
        for (Site site : sites) {
            site.passOn();
        }
    }

    private void finish(Task command) {
        Client client = clients[command.client];
        client.finish(runner.run(command), runner);
        client.settle(durable);
    }

    private void comeToMarker(int site) {
        sites[site].passOn();
        underWay.copyPart(runner.live, site, partitions);
        // No MULTI command is done between the first site's coming and the last one's, so the cells are the same each time.
        underWay.copyCells(runner.live);
        sites[site].beginPart(underWay.countPart(site, partitions));
        completeSnapshotIfCopied();
    }

    private void completeSnapshotIfCopied() {
        for (Site site : sites) {
            if (!site.marked || site.rowsLeft > 0) {
                return;
            }
        }
        complete.copyFrom(underWay);
        completeMarker = underWayMarker;
        underWayMarker = 0;
        dropLogUpTo(completeMarker);
        raiseDurable(completeMarker);
    }

    private void raiseDurable(int number) {
        durable = Math.max(durable, number);
        for (Client client : clients) {
            client.settle(durable);
        }
    }

    private void dropLogUpTo(int number) {
        for (int left = log.size(); left > 0 && log.get(0).number <= number; left--) {
            log.remove(0);
        }
    }

    private void dropLogAbove(int number) {
        for (int last = log.size() - 1; last >= 0 && log.get(last).number > number; last--) {
            log.remove(last);
        }
    }

    private int stalledNumber() {
        for (Site site : sites) {
            Task next = site.first();
            if (site.stalled && next != null) {
                return next.number;
            }
        }
        return 0;
    }

    private static final class Statement {
        final int op;
        final int x;
        final int y;
        final int z;

        Statement(int op, int x, int y, int z) {
            this.op = op;
            this.x = x;
            this.y = y;
            this.z = z;
        }
    }

    private static final class Procedure {
        final ArrayList<Statement> statements = new ArrayList<>();
        boolean multi = false;
        boolean deployed = false;

        void restart(boolean isMulti) {
            statements.clear();
            multi = isMulti;
        }

        boolean isSound() {
            int size = statements.size();
            for (int i = 0; i < size; i++) {
                Statement statement = statements.get(i);
                if (statement.op == SKIP && statement.y > size - 1 - i) {
                    return false;
                }
                if (statement.op == STORE && !multi) {
                    return false;
                }
            }
            return size > 0;
        }
    }

    /** A command, or a marker, which has no procedure. */
    private static final class Task {
        final int number;
        final int client;
        final Procedure procedure;
        final int a;
        final int b;
        final int c;

        Task(int number, int client, Procedure procedure, int a, int b, int c) {
            this.number = number;
            this.client = client;
            this.procedure = procedure;
            this.a = a;
            this.b = b;
            this.c = c;
        }

        int home(int partitions) {
            return Math.floorMod(a, partitions);
        }
    }

    private static final class Site {
        final ArrayList<Task> queue = new ArrayList<>();
        boolean stalled = false;
        boolean marked = false;
        int rowsLeft = 0;

        Task first() {
            return queue.isEmpty() ? null : queue.get(0);
        }

        void passOn() {
            stalled = false;
            if (!queue.isEmpty()) {
                queue.remove(0);
            }
        }

        void beginPart(int size) {
            marked = true;
            rowsLeft = size;
        }

        void restart() {
            queue.clear();
            stalled = false;
        }
    }

    private static final class Client {
        int state = FREE;
        private int number = 0;
        private boolean done = false;
        private boolean committed = false;
        private int fault = 0;
        private int outputSize = 0;
        private final int[] outputs = new int[MAX_OUTPUT];

        void begin(int commandNumber) {
            state = PENDING;
            number = commandNumber;
            done = false;
        }

        void finish(boolean hasCommitted, Runner runner) {
            done = true;
            committed = hasCommitted;
            fault = runner.fault;
            outputSize = runner.outputSize;
            System.arraycopy(runner.outputs, 0, outputs, 0, MAX_OUTPUT);
        }

        void settle(int durable) {
            if (state == PENDING && done && number <= durable) {
                state = committed ? COMMITTED : ABORTED;
            }
        }

        void lose() {
            if (state == PENDING) {
                state = LOST;
            }
        }

        long tell(int i) {
            if (state == COMMITTED && i == -1) {
                return outputSize;
            }
            if (state == COMMITTED && isWithin(i, outputSize)) {
                return outputs[i];
            }
            if (state == ABORTED && i == -1) {
                return fault;
            }
            return NONE;
        }
    }

    /** All rows and cells. An absent row holds NONE, which no int equals. */
    private static final class Table {
        final long[] values = new long[KEYS];
        final int[] cells = new int[CELLS];

        Table() {
            Arrays.fill(values, NONE);
        }

        void copyFrom(Table other) {
            System.arraycopy(other.values, 0, values, 0, KEYS);
            copyCells(other);
        }

        void copyCells(Table other) {
            System.arraycopy(other.cells, 0, cells, 0, CELLS);
        }

        void copyPart(Table other, int partition, int partitions) {
            for (int key = 0; key < KEYS; key++) {
                if (key % partitions == partition) {
                    values[key] = other.values[key];
                }
            }
        }

        int countPart(int partition, int partitions) {
            int found = 0;
            for (int key = 0; key < KEYS; key++) {
                if (key % partitions == partition && values[key] != NONE) {
                    found++;
                }
            }
            return found;
        }
    }

    private static final class Runner {
        private static final int NEXT = 0;
        private static final int ABORT = -1;
        private static final int ALL_PARTITIONS = -1;

        final Table live = new Table();
        private final int partitions;
        private final Table before = new Table();
        private final int[] registers = new int[REGISTERS];
        private int home = ALL_PARTITIONS;
        final int[] outputs = new int[MAX_OUTPUT];
        int outputSize = 0;
        int fault = 0;

        Runner(int partitions) {
            this.partitions = partitions;
        }

        boolean run(Task command) {
            begin(command);
            ArrayList<Statement> statements = command.procedure.statements;
            int due = 0;
            for (int i = 0; i < statements.size(); i++) {
                if (i < due) {
                    continue;
                }
                int passedOver = execute(statements.get(i));
                if (passedOver == ABORT) {
                    abort(i);
                    return false;
                }
                due = i + 1 + passedOver;
            }
            return true;
        }

        private void begin(Task command) {
            before.copyFrom(live);
            home = command.procedure.multi ? ALL_PARTITIONS : command.home(partitions);
            Arrays.fill(registers, 0);
            registers[0] = command.a;
            registers[1] = command.b;
            registers[2] = command.c;
            outputSize = 0;
        }

        private void abort(int statement) {
            live.copyFrom(before);
            outputSize = 0;
            fault = statement;
        }

        /** Answers how many of the next statements are passed over, or ABORT. */
        private int execute(Statement s) {
            switch (s.op) {
                case GET:
                    return readRow(s);
                case PUT:
                    return writeRow(registers[s.x], registers[s.y]);
                case INSERT:
                    return isPresent(registers[s.x]) ? ABORT : writeRow(registers[s.x], registers[s.y]);
                case DELETE:
                    return isPresent(registers[s.x]) ? writeRow(registers[s.x], NONE) : ABORT;
                case ADD:
                    registers[s.x] = registers[s.y] + registers[s.z];
                    return NEXT;
                case SET:
                    registers[s.x] = s.y;
                    return NEXT;
                case NEED:
                    return registers[s.x] < registers[s.y] ? ABORT : NEXT;
                case SKIP:
                    return registers[s.x] == 0 ? s.y : NEXT;
                case LOAD:
                    return loadCell(s);
                case STORE:
                    return storeCell(s);
                case OUT:
                    return putOut(registers[s.x]);
                default:
                    return ABORT;
            }
        }

        private boolean isReachable(int key) {
            return key >= 0 && key < KEYS && (home == ALL_PARTITIONS || key % partitions == home);
        }

        private boolean isPresent(int key) {
            return isReachable(key) && live.values[key] != NONE;
        }

        private int readRow(Statement s) {
            int key = registers[s.y];
            if (!isPresent(key)) {
                return ABORT;
            }
            registers[s.x] = (int) live.values[key];
            return NEXT;
        }

        private int writeRow(int key, long value) {
            if (!isReachable(key)) {
                return ABORT;
            }
            live.values[key] = value;
            return NEXT;
        }

        private int loadCell(Statement s) {
            int cell = registers[s.y];
            if (!isWithin(cell, CELLS)) {
                return ABORT;
            }
            registers[s.x] = live.cells[cell];
            return NEXT;
        }

        private int storeCell(Statement s) {
            int cell = registers[s.x];
            if (!isWithin(cell, CELLS)) {
                return ABORT;
            }
            live.cells[cell] = registers[s.y];
            return NEXT;
        }

        private int putOut(int value) {
            if (outputSize >= MAX_OUTPUT) {
                return ABORT;
            }
            outputs[outputSize] = value;
            outputSize++;
            return NEXT;
        }
    }
}
