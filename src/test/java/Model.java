import java.util.ArrayList;
import java.util.List;
import java.util.TreeMap;

/**
 * A second reading of the document, to compare long runs with. It keeps every command since the object was made and works
 * rows, cells and outcomes out anew from those that are done, in the order of numbers. So it has no snapshots to restore
 * and no writes to take back: a store that recovers rightly cannot be told from it.
 */
final class Model {
    private static final int REGISTERS = 6;
    private static final int[] NAMED = {2, 2, 2, 1, 3, 1, 2, 1, 2, 2, 1};

    private static final class Code {
        final boolean multi;
        final List<int[]> lines = new ArrayList<>();

        Code(boolean multi) {
            this.multi = multi;
        }
    }

    private static final class Item {
        int number;
        int client;
        Code code;
        int[] arguments;
        boolean[] concerned;
        boolean[] come;
        boolean done;
        boolean committed;
        int fault;
        List<Integer> output = new ArrayList<>();
    }

    private final int partitions;
    private final Code[] deployed = new Code[6];
    private Code draft;
    private int draftNumber;
    private final List<Item> items = new ArrayList<>();
    private final Item[] lastOf = new Item[4];
    private final boolean[] lost = new boolean[4];
    private TreeMap<Integer, Integer> rows = new TreeMap<>();
    private int[] cells = new int[8];
    private int last;
    private int durable;
    private int complete;
    private Item marker;
    private int[] left;

    Model(int partitions) {
        this.partitions = partitions < 1 ? 1 : partitions > 4 ? 4 : partitions;
    }

    int open(int procedure, boolean multi) {
        if (procedure < 0 || procedure > 5 || deployed[procedure] != null) {
            return -1;
        }
        draft = new Code(multi);
        draftNumber = procedure;
        return 0;
    }

    int add(int op, int x, int y, int z) {
        if (draft == null || op < 0 || op > 10) {
            return -1;
        }
        int[] operands = {x, y, z};
        for (int i = 0; i < NAMED[op]; i++) {
            if (operands[i] < 0 || operands[i] >= REGISTERS) {
                return -1;
            }
        }
        if (op == 7 && (y < 1 || y > 7)) {
            return -1;
        }
        if (draft.lines.size() == 8) {
            return -2;
        }
        draft.lines.add(new int[] {op, x, y, z});
        return draft.lines.size() - 1;
    }

    int deploy() {
        if (draft == null) {
            return -1;
        }
        Code code = draft;
        draft = null;
        boolean bad = code.lines.isEmpty();
        for (int i = 0; i < code.lines.size(); i++) {
            int[] line = code.lines.get(i);
            bad |= line[0] == 7 && i + line[2] >= code.lines.size();
            bad |= line[0] == 9 && !code.multi;
        }
        if (bad) {
            return -3;
        }
        deployed[draftNumber] = code;
        return 0;
    }

    int invoke(int client, int procedure, int a, int b, int c) {
        if (client < 0 || client > 3 || answer(client) == 1 || procedure < 0 || procedure > 5
            || deployed[procedure] == null) {
            return -1;
        }
        if (count(2) == 48) {
            return -2;
        }
        Item item = come(deployed[procedure]);
        item.client = client;
        item.arguments = new int[] {a, b, c};
        if (!item.code.multi) {
            item.concerned = new boolean[partitions];
            item.concerned[home(a)] = true;
        }
        lastOf[client] = item;
        lost[client] = false;
        return item.number;
    }

    int step(int site) {
        if (site < 0 || site >= partitions) {
            return -1;
        }
        for (Item item : items) {
            if (!waits(item, site)) {
                continue;
            }
            item.come[site] = true;
            if (item == marker) {
                left[site] = rows(site);
                endSnapshot();
                return 3;
            }
            for (int other = 0; other < partitions; other++) {
                if (item.concerned[other] && !item.come[other]) {
                    return 2;
                }
            }
            item.done = true;
            workOutAnew();
            return 1;
        }
        return 0;
    }

    int flush() {
        durable = last;
        return durable;
    }

    int snapshot() {
        if (marker != null) {
            return -1;
        }
        marker = come(null);
        left = new int[partitions];
        return marker.number;
    }

    int scan(int site, int n) {
        if (site < 0 || site >= partitions || marker == null || !marker.come[site]) {
            return -1;
        }
        left[site] = n >= left[site] ? 0 : n > 0 ? left[site] - n : left[site];
        int answer = left[site];
        endSnapshot();
        return answer;
    }

    int crash() {
        for (int client = 0; client < 4; client++) {
            lost[client] |= answer(client) == 1;
        }
        items.removeIf(item -> item.code == null || item.number > durable);
        for (Item item : items) {
            item.done = true;
        }
        marker = null;
        last = durable;
        workOutAnew();
        return durable;
    }

    int answer(int client) {
        if (client < 0 || client > 3) {
            return -1;
        }
        Item item = lastOf[client];
        if (lost[client]) {
            return 4;
        }
        if (item == null) {
            return 0;
        }
        return !item.done || item.number > durable ? 1 : item.committed ? 2 : 3;
    }

    long output(int client, int i) {
        int state = answer(client);
        if (state == 2 && i == -1) {
            return lastOf[client].output.size();
        }
        if (state == 2 && i >= 0 && i < lastOf[client].output.size()) {
            return lastOf[client].output.get(i);
        }
        return state == 3 && i == -1 ? lastOf[client].fault : 1000000000000L;
    }

    long row(int key) {
        return rows.containsKey(key) ? rows.get(key) : 1000000000000L;
    }

    long replicated(int cell) {
        return cell < 0 || cell > 7 ? 1000000000000L : cells[cell];
    }

    int waiting(int site) {
        if (site < 0 || site >= partitions) {
            return -1;
        }
        return (int) items.stream().filter(item -> waits(item, site)).count();
    }

    int rows(int site) {
        if (site < 0 || site >= partitions) {
            return -1;
        }
        return (int) rows.keySet().stream().filter(key -> key % partitions == site).count();
    }

    int count(int what) {
        switch (what) {
            case 0:
                return last;
            case 1:
                return durable;
            case 2:
                return (int) items.stream().filter(item -> item.code != null && item.number > complete).count();
            case 3:
                return complete;
            case 4:
                return marker == null ? 0 : marker.number;
            case 5:
                return stalledAt();
            default:
                return -1;
        }
    }

    private int stalledAt() {
        for (Item item : items) {
            for (int site = 0; site < partitions; site++) {
                if (item.code != null && !item.done && item.come[site]) {
                    return item.number;
                }
            }
        }
        return 0;
    }

    private Item come(Code code) {
        Item item = new Item();
        last++;
        item.number = last;
        item.code = code;
        item.come = new boolean[partitions];
        item.concerned = new boolean[partitions];
        java.util.Arrays.fill(item.concerned, true);
        items.add(item);
        return item;
    }

    private boolean waits(Item item, int site) {
        return item.concerned[site] && !item.done && !(item.code == null && item.come[site]);
    }

    private void endSnapshot() {
        for (int site = 0; site < partitions; site++) {
            if (!marker.come[site] || left[site] > 0) {
                return;
            }
        }
        complete = marker.number;
        durable = Math.max(durable, complete);
        marker = null;
    }

    private int home(int a) {
        return (int) (((long) a + 4L * partitions * 1000000000L) % partitions);
    }

    private void workOutAnew() {
        rows = new TreeMap<>();
        cells = new int[8];
        for (Item item : items) {
            if (item.code != null && item.done) {
                workOut(item);
            }
        }
    }

    private void workOut(Item item) {
        TreeMap<Integer, Integer> nextRows = new TreeMap<>(rows);
        int[] nextCells = cells.clone();
        item.output.clear();
        item.fault = run(item, nextRows, nextCells);
        item.committed = item.fault < 0;
        if (item.committed) {
            rows = nextRows;
            cells = nextCells;
        }
    }

    /** Answers the number of the statement that aborts, or -1. */
    private int run(Item item, TreeMap<Integer, Integer> table, int[] shared) {
        int[] r = new int[REGISTERS];
        System.arraycopy(item.arguments, 0, r, 0, 3);
        for (int at = 0; at < item.code.lines.size(); at++) {
            int[] line = item.code.lines.get(at);
            int op = line[0];
            int x = line[1];
            int y = line[2];
            if (op <= 3) {
                int key = op == 0 ? r[y] : r[x];
                if (key < 0 || key > 31 || !item.code.multi && key % partitions != home(item.arguments[0])) {
                    return at;
                }
                if ((op == 0 || op == 3) != table.containsKey(key) && op != 1) {
                    return at;
                }
                if (op == 0) {
                    r[x] = table.get(key);
                } else if (op == 3) {
                    table.remove(key);
                } else {
                    table.put(key, r[y]);
                }
            } else if (op == 4) {
                r[x] = (int) ((long) r[y] + r[line[3]]);
            } else if (op == 5) {
                r[x] = y;
            } else if (op == 6 && r[x] < r[y]) {
                return at;
            } else if (op == 7 && r[x] == 0) {
                at += y;
            } else if (op == 8 || op == 9) {
                int cell = op == 8 ? r[y] : r[x];
                if (cell < 0 || cell > 7) {
                    return at;
                }
                if (op == 8) {
                    r[x] = shared[cell];
                } else {
                    shared[cell] = r[y];
                }
            } else if (op == 10) {
                if (item.output.size() == 4) {
                    return at;
                }
                item.output.add(r[x]);
            }
        }
        return -1;
    }
}
