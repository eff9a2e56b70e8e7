import java.util.ArrayList;
import java.util.Comparator;
import java.util.LinkedHashMap;
import java.util.List;
import java.util.Map;
import java.util.TreeMap;

/**
 * The document told once more, with the Java library and in another way than the program: logs of
 * records that are read anew for each look at committed rows, and statements worked out as trees.
 */
final class Model {
    /** A record of a log; row is null where a key has lost its row, and all of it for a mark. */
    record Entry(int table, int key, ModelText.Row row, boolean mark) { }

    private final int[] labels;
    private final List<List<Entry>> logs = new ArrayList<>();
    /** For each session its transaction: for each table the rows of its label by key; or null. */
    private final List<List<TreeMap<Integer, ModelText.Row>>> transactions = new ArrayList<>();
    private final StringBuilder[] drafts = new StringBuilder[4];
    private final List<List<List<Integer>>> results = new ArrayList<>();

    Model(int... labels) {
        this.labels = labels.clone();
        for (int label = 0; label < 8; label++) {
            logs.add(new ArrayList<>());
        }
        for (int session = 0; session < 4; session++) {
            this.labels[session] = Math.floorMod(labels[session], 8);
            transactions.add(null);
            drafts[session] = new StringBuilder();
            results.add(List.of());
        }
    }

    private static boolean isNone(int session) {
        return session < 0 || session > 3;
    }

    private List<TreeMap<Integer, ModelText.Row>> committed(int label) {
        List<TreeMap<Integer, ModelText.Row>> rows = List.of(new TreeMap<>(), new TreeMap<>());
        List<Entry> read = new ArrayList<>();
        for (Entry entry : logs.get(label)) {
            if (!entry.mark()) {
                read.add(entry);
                continue;
            }
            for (Entry one : read) {
                if (one.row() == null) {
                    rows.get(one.table()).remove(one.key());
                } else {
                    rows.get(one.table()).put(one.key(), one.row());
                }
            }
            read.clear();
        }
        return rows;
    }

    /** The session with the label that has a transaction, or -1. */
    private int owner(int label) {
        for (int session = 0; session < 4; session++) {
            if (labels[session] == label && transactions.get(session) != null) {
                return session;
            }
        }
        return -1;
    }

    private List<ModelText.Row> seen(int session, int table) {
        List<ModelText.Row> all = new ArrayList<>();
        for (int label = 0; label < 8; label++) {
            if ((labels[session] & label) != label) {
                continue;
            }
            boolean own = label == labels[session] && owner(label) >= 0;
            all.addAll((own ? transactions.get(owner(label)) : committed(label)).get(table).values());
        }
        all.sort(Comparator.comparingInt(ModelText.Row::k).thenComparingInt(ModelText.Row::lab));
        return all;
    }

    private List<Entry> due(int label, List<TreeMap<Integer, ModelText.Row>> after) {
        List<TreeMap<Integer, ModelText.Row>> before = committed(label);
        List<Entry> entries = new ArrayList<>();
        for (int table = 0; table < 2; table++) {
            TreeMap<Integer, ModelText.Row> keys = new TreeMap<>(before.get(table));
            keys.putAll(after.get(table));
            for (int key : keys.keySet()) {
                ModelText.Row row = after.get(table).get(key);
                ModelText.Row old = before.get(table).get(key);
                if (row == null || !row.equals(old)) {
                    entries.add(new Entry(table, key, row, false));
                }
            }
        }
        if (!entries.isEmpty()) {
            entries.add(new Entry(0, 0, null, true));
        }
        return entries;
    }

    boolean write(int session, long w) {
        StringBuilder more = new StringBuilder();
        for (int shift = 56; shift >= 0; shift -= 8) {
            char c = (char) (w >> shift & 0xff);
            if (c != 0) {
                more.append(c);
            }
        }
        if (isNone(session) || !more.toString().matches("[ -~]*") || drafts[session].length() + more.length() > 80) {
            return false;
        }
        drafts[session].append(more);
        return true;
    }

    int begin(int session) {
        if (isNone(session)) {
            return -1;
        }
        if (owner(labels[session]) >= 0) {
            return -6;
        }
        transactions.set(session, committed(labels[session]));
        return 0;
    }

    int commit(int session) {
        if (isNone(session)) {
            return -1;
        }
        if (transactions.get(session) == null) {
            return -8;
        }
        List<Entry> entries = due(labels[session], transactions.get(session));
        if (logs.get(labels[session]).size() + entries.size() > 30) {
            return -5;
        }
        logs.get(labels[session]).addAll(entries);
        transactions.set(session, null);
        return entries.size();
    }

    int abort(int session) {
        if (isNone(session)) {
            return -1;
        }
        return transactions.set(session, null) == null ? -8 : 0;
    }

    int checkpoint(int session) {
        if (isNone(session)) {
            return -1;
        }
        int label = labels[session];
        if (owner(label) >= 0) {
            return -6;
        }
        List<TreeMap<Integer, ModelText.Row>> rows = committed(label);
        logs.get(label).clear();
        logs.get(label).addAll(due(label, rows));
        return logs.get(label).size();
    }

    int cut(int session, int n) {
        if (isNone(session) || n < 0) {
            return -1;
        }
        if (transactions.get(session) == null) {
            return -8;
        }
        List<Entry> log = logs.get(labels[session]);
        List<Entry> entries = due(labels[session], transactions.get(session));
        if (log.size() + entries.size() > 30) {
            return -5;
        }
        log.addAll(entries.subList(0, Math.min(n, entries.size())));
        crash();
        return n >= entries.size() ? 1 : 0;
    }

    void crash() {
        for (List<Entry> log : logs) {
            while (!log.isEmpty() && !log.get(log.size() - 1).mark()) {
                log.remove(log.size() - 1);
            }
        }
        for (int session = 0; session < 4; session++) {
            transactions.set(session, null);
            drafts[session].setLength(0);
            results.set(session, List.of());
        }
    }

    int label(int session) {
        return isNone(session) ? -1 : labels[session];
    }

    boolean busy(int session) {
        return !isNone(session) && transactions.get(session) != null;
    }

    int log(int session) {
        return isNone(session) ? -1 : logs.get(labels[session]).size();
    }

    int rows(int session, int table) {
        return isNone(session) || table < 0 || table > 1 ? -1 : seen(session, table).size();
    }

    int cell(int session, int table, int k, int w) {
        if (k < 0 || k >= rows(session, table) || w < 0 || w > 3) {
            return -1;
        }
        return seen(session, table).get(k).column(w);
    }

    int results(int session) {
        return isNone(session) ? -1 : results.get(session).size();
    }

    int value(int session, int r, int c) {
        if (r < 0 || c < 0 || r >= results(session) || c >= results.get(session).get(r).size()) {
            return 0;
        }
        return results.get(session).get(r).get(c);
    }

    int draft(int session) {
        return isNone(session) ? -1 : drafts[session].length();
    }

    int run(int session) {
        if (isNone(session)) {
            return -1;
        }
        ModelText statement = ModelText.read(drafts[session].toString());
        drafts[session].setLength(0);
        if (statement == null) {
            return -2;
        }
        if (statement.isMisnamed()) {
            return -3;
        }
        if (statement.verb.equals("select")) {
            return select(session, statement);
        }
        int owner = owner(labels[session]);
        if (owner >= 0 && owner != session) {
            return -6;
        }
        List<TreeMap<Integer, ModelText.Row>> rows = new ArrayList<>();
        for (Map<Integer, ModelText.Row> table : owner < 0 ? committed(labels[session]) : transactions.get(session)) {
            rows.add(new TreeMap<>(table));
        }
        int answer = change(session, statement, rows.get(statement.tables.get(0)));
        if (answer < 0) {
            return answer;
        }
        if (owner >= 0) {
            transactions.set(session, rows);
            return answer;
        }
        List<Entry> entries = due(labels[session], rows);
        if (logs.get(labels[session]).size() + entries.size() > 30) {
            return -5;
        }
        logs.get(labels[session]).addAll(entries);
        return answer;
    }

    private int change(int session, ModelText statement, TreeMap<Integer, ModelText.Row> own) {
        int label = labels[session];
        int table = statement.tables.get(0);
        int count = 0;
        if (statement.verb.equals("insert")) {
            int[] values = new int[3];
            for (int i = 0; i < 3; i++) {
                values[i] = statement.xs.get(i).value().of(null, null);
            }
            if (own.containsKey(values[0])) {
                return -4;
            }
            own.put(values[0], new ModelText.Row(values[0], values[1], values[2], label));
            return own.size() > 6 ? -5 : 1;
        }
        for (ModelText.Row row : seen(session, table)) {
            if (statement.where.of(row, row) == 0) {
                continue;
            }
            if (statement.verb.equals("delete")) {
                if (row.lab() == label) {
                    own.remove(row.k());
                    count++;
                }
            } else if (row.lab() == label || !own.containsKey(row.k())) {
                int value = statement.xs.get(0).value().of(row, row);
                boolean isV = statement.column == 1;
                own.put(row.k(), new ModelText.Row(row.k(), isV ? value : row.v(), isV ? row.w() : value, label));
                count++;
            }
        }
        return own.size() > 6 ? -5 : count;
    }

    private boolean isTop(ModelText.Row row, List<ModelText.Row> all) {
        return all.stream().noneMatch(other -> other.k() == row.k() && other.lab() != row.lab()
                && (other.lab() | row.lab()) == other.lab());
    }

    private List<ModelText.Row> counting(int session, ModelText statement, int table) {
        List<ModelText.Row> all = seen(session, table);
        return statement.top ? all.stream().filter(row -> isTop(row, all)).toList() : all;
    }

    private int select(int session, ModelText statement) {
        List<ModelText.Row[]> found = new ArrayList<>();
        boolean two = statement.tables.size() == 2;
        for (ModelText.Row one : counting(session, statement, statement.tables.get(0))) {
            for (ModelText.Row other : two ? counting(session, statement, statement.tables.get(1)) : List.of(one)) {
                // Columns are asked of table A's row and of table B's row.
                boolean inOrder = !two || statement.tables.get(0) == 0;
                ModelText.Row[] pair = inOrder ? new ModelText.Row[] {one, other} : new ModelText.Row[] {other, one};
                if (statement.where.of(pair[0], pair[1]) != 0) {
                    found.add(pair);
                }
            }
        }
        if (found.size() > 40) {
            return -7;
        }
        Map<Object, List<ModelText.Row[]>> groups = new LinkedHashMap<>();
        for (ModelText.Row[] pair : found) {
            Object group = statement.group != null ? statement.group.of(pair[0], pair[1])
                    : statement.isSummary() ? "all" : pair;
            groups.computeIfAbsent(group, key -> new ArrayList<>()).add(pair);
        }
        List<List<ModelText.Row[]>> sorted = new ArrayList<>(groups.values());
        if (statement.order != null) {
            Comparator<List<ModelText.Row[]>> byOrder = Comparator.comparing(statement.order::over);
            sorted.sort(statement.descending ? byOrder.reversed() : byOrder);
        }
        List<List<Integer>> rows = new ArrayList<>();
        for (List<ModelText.Row[]> group : sorted) {
            rows.add(statement.xs.stream().map(x -> x.over(group)).toList());
        }
        results.set(session, rows);
        return rows.size();
    }
}
