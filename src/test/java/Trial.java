import java.util.ArrayList;
import java.util.List;

/** One object of LabelledTables under test: calls it, and tells in its failures what was called before. */
final class Trial {
    static final int A = 0;
    static final int B = 1;

    final LabelledTables tables;
    private final Checks checks;
    private final String name;
    private final List<String> calls = new ArrayList<>();

    Trial(Checks checks, String name, int label0, int label1, int label2, int label3) {
        this.checks = checks;
        this.name = name;
        tables = new LabelledTables(label0, label1, label2, label3);
        calls.add("new(" + label0 + "," + label1 + "," + label2 + "," + label3 + ")");
    }

    /** Runs each of the texts at label 0 in an object of its own, where A has one row, 1 2 3, and B none. */
    static void each(Checks checks, String name, int due, String... texts) {
        for (String text : texts) {
            new Trial(checks, name, 0, 0, 0, 0).run(0, "insert A 1,2,3", 1).run(0, text, due);
        }
    }

    /** Works out an expression that has no columns. */
    static void worth(Checks checks, String name, String expression, int due) {
        new Trial(checks, name, 0, 0, 0, 0).run(0, "insert B 7," + expression + ",8", 1).sees(0, B, "7 " + due + " 8 0");
    }

    /** The characters as the bytes of one long, from the highest on; at most eight. */
    static long pack(String text) {
        long w = 0;
        for (int i = 0; i < text.length(); i++) {
            w = w << 8 | text.charAt(i) & 255;
        }
        return w;
    }

    /** How many calls were made on the object. */
    int made() {
        return calls.size() - 1;
    }

    private void due(String call, long due, long answered) {
        calls.add(call);
        checks.same(name + ": " + String.join(" ", calls), due, answered);
    }

    /** Writes the text, which has room in the draft. */
    Trial text(int session, String text) {
        for (int i = 0; i < text.length(); i += 8) {
            String piece = text.substring(i, Math.min(i + 8, text.length()));
            due("write(" + session + ",'" + piece + "')", 1, tables.write(session, pack(piece)) ? 1 : 0);
        }
        return this;
    }

    Trial write(int session, long w, boolean due) {
        due("write(" + session + "," + w + ")", due ? 1 : 0, tables.write(session, w) ? 1 : 0);
        return this;
    }

    /** Inserts rows with the keys from first to last, all with the values 0. */
    Trial fill(int session, String table, int first, int last) {
        for (int key = first; key <= last; key++) {
            run(session, "insert " + table + " " + key + ",0,0", 1);
        }
        return this;
    }

    /** Writes as many records (2 or more) into the log of a session's label, in which there is none. */
    Trial records(int session, int count) {
        int odd = count % 2;
        begin(session, 0).fill(session, "B", 0, odd).commit(session, 2 + odd);
        for (int i = 2 + odd; i < count; i += 2) {
            run(session, "update B v=v+1 where k=0", 1);
        }
        return log(session, count);
    }

    /** Writes the text and runs it. */
    Trial run(int session, String text, int due) {
        text(session, text);
        return run(session, due);
    }

    Trial run(int session, int due) {
        due("run(" + session + ")", due, tables.run(session));
        return this;
    }

    Trial begin(int session, int due) {
        due("begin(" + session + ")", due, tables.begin(session));
        return this;
    }

    Trial commit(int session, int due) {
        due("commit(" + session + ")", due, tables.commit(session));
        return this;
    }

    Trial abort(int session, int due) {
        due("abort(" + session + ")", due, tables.abort(session));
        return this;
    }

    Trial checkpoint(int session, int due) {
        due("checkpoint(" + session + ")", due, tables.checkpoint(session));
        return this;
    }

    Trial cut(int session, int n, int due) {
        due("cut(" + session + "," + n + ")", due, tables.cut(session, n));
        return this;
    }

    Trial crash() {
        tables.crash();
        calls.add("crash()");
        return this;
    }

    Trial label(int session, int due) {
        due("label(" + session + ")", due, tables.label(session));
        return this;
    }

    Trial busy(int session, boolean due) {
        due("busy(" + session + ")", due ? 1 : 0, tables.busy(session) ? 1 : 0);
        return this;
    }

    Trial log(int session, int due) {
        due("log(" + session + ")", due, tables.log(session));
        return this;
    }

    Trial rows(int session, int table, int due) {
        due("rows(" + session + "," + table + ")", due, tables.rows(session, table));
        return this;
    }

    Trial cell(int session, int table, int k, int w, int due) {
        due("cell(" + session + "," + table + "," + k + "," + w + ")", due, tables.cell(session, table, k, w));
        return this;
    }

    Trial results(int session, int due) {
        due("results(" + session + ")", due, tables.results(session));
        return this;
    }

    Trial value(int session, int r, int c, int due) {
        due("value(" + session + "," + r + "," + c + ")", due, tables.value(session, r, c));
        return this;
    }

    Trial draft(int session, int due) {
        due("draft(" + session + ")", due, tables.draft(session));
        return this;
    }

    /** All rows of a table that a session sees, each as k v w lab, such as "1 10 20 0; 2 11 21 1". */
    Trial sees(int session, int table, String due) {
        int[][] rows = numbers(due);
        rows(session, table, rows.length);
        for (int k = 0; k < rows.length; k++) {
            for (int w = 0; w < 4; w++) {
                cell(session, table, k, w, rows[k][w]);
            }
        }
        return cell(session, table, rows.length, 0, -1);
    }

    /** Runs a select and looks at all its results, written as those of sees. */
    Trial select(int session, String text, String due) {
        int[][] rows = numbers(due);
        run(session, text, rows.length);
        return gave(session, due);
    }

    /** All results of a session. */
    Trial gave(int session, String due) {
        int[][] rows = numbers(due);
        results(session, rows.length);
        for (int r = 0; r < rows.length; r++) {
            for (int c = 0; c < 3; c++) {
                value(session, r, c, c < rows[r].length ? rows[r][c] : 0);
            }
        }
        return value(session, rows.length, 0, 0);
    }

    private static int[][] numbers(String text) {
        if (text.isEmpty()) {
            return new int[0][];
        }
        String[] rows = text.split(";");
        int[][] all = new int[rows.length][];
        for (int i = 0; i < rows.length; i++) {
            String[] parts = rows[i].trim().split(" +");
            all[i] = new int[parts.length];
            for (int j = 0; j < parts.length; j++) {
                all[i][j] = Integer.parseInt(parts[j]);
            }
        }
        return all;
    }
}
