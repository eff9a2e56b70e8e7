public final class Example {
    public static void main(String[] args) {
        // The labels of the sessions 0 to 3; 3 dominates 0, 1 and 3.
        LabelledTables tables = new LabelledTables(0, 1, 3, 3);

        // Statements of sessions without a transaction are committed at once.
        System.out.println(run(tables, 0, "insert A 1,10,20"));              // 1: a row of label 0
        System.out.println(run(tables, 0, "insert A 1,11,21"));              // -4: label 0 has one with that key
        System.out.println(run(tables, 0, "insert A 2,12,22"));              // 1
        System.out.println(run(tables, 2, "update A v=v+5 where k=1"));      // 1: made at label 3, where there was none
        System.out.println(run(tables, 2, "delete A where lab=0"));          // 0: session 2 writes at label 3 alone
        System.out.println(tables.log(0));                                   // 4: a record for each row, each with a mark

        // Rows: session 2 sees key 1 at the labels 0 and 3, and key 2 at label 0.
        System.out.println(tables.rows(2, 0));                               // 3
        System.out.println(tables.cell(2, 0, 1, 0));                         // 1: the key of row 1
        System.out.println(tables.cell(2, 0, 1, 1));                         // 15: its v
        System.out.println(tables.cell(2, 0, 1, 2));                         // 20: its w
        System.out.println(tables.cell(2, 0, 1, 3));                         // 3: its label
        System.out.println(tables.rows(1, 0));                               // 2: label 1 does not dominate 3

        // Results stay until the session's next select that answers 0 or more, or a crash.
        System.out.println(run(tables, 2, "select top k,v from A order v")); // 2: label 0's row of key 1 is covered
        System.out.println(tables.results(2));                               // 2
        System.out.println(tables.value(2, 0, 0));                           // 2: k of the first result row
        System.out.println(tables.value(2, 0, 1));                           // 12: v of it
        System.out.println(tables.value(2, 1, 1));                           // 15: v of the second one
        System.out.println(tables.value(2, 2, 0));                           // 0: there is no third one

        // A transaction that is given up.
        System.out.println(tables.begin(2));                                 // 0
        System.out.println(tables.begin(3));                                 // -6: it is of the same label
        System.out.println(run(tables, 2, "delete A"));                      // 1
        System.out.println(run(tables, 3, "delete A"));                      // -6
        System.out.println(tables.rows(3, 0));                               // 2: as session 2 has left them
        System.out.println(tables.abort(2));                                 // 0
        System.out.println(tables.rows(3, 0));                               // 3

        // One that is committed: a record for each key that is another one, and the mark.
        System.out.println(tables.begin(2));                                 // 0
        System.out.println(run(tables, 2, "insert B 7,0-1,2*(3+4)"));        // 1
        System.out.println(run(tables, 2, "update A w=0 where lab=3"));      // 1
        System.out.println(tables.busy(2));                                  // true
        System.out.println(tables.commit(2));                                // 3
        System.out.println(tables.busy(2));                                  // false

        // One that is cut: a crash comes after one of its two records.
        System.out.println(tables.begin(2));                                 // 0
        System.out.println(run(tables, 2, "delete B"));                      // 1
        System.out.println(tables.cut(2, 1));                                // 0: it was not committed
        System.out.println(tables.rows(2, 1));                               // 1
        System.out.println(tables.results(2));                               // 0: a crash empties results, and drafts

        // The log holds 30 records; a checkpoint writes it anew, with a record for each row.
        System.out.println(tables.log(2));                                   // 5
        System.out.println(tables.checkpoint(2));                            // 3
    }

    /** Writes a text of the codes 32 to 126 into a session's draft, eight characters a call, and runs it. */
    static int run(LabelledTables tables, int session, String text) {
        for (int start = 0; start < text.length(); start += 8) {
            if (!tables.write(session, packed(text, start))) {
                throw new IllegalArgumentException("no such session, or no room for " + text);
            }
        }
        return tables.run(session);
    }

    /** Up to eight characters of the text, from start on, as the bytes of a long. */
    private static long packed(String text, int start) {
        long w = 0;
        for (int i = start; i < text.length() && i < start + 8; i++) {
            w = w << 8 | text.charAt(i);
        }
        return w;
    }
}
