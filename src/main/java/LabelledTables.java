/**
 * Tables whose rows have labels, worked by sessions with labels. What each call answers is told by
 * the document (DOC.md), whose words the names in this file follow.
 */
public final class LabelledTables {
    private static final int SESSIONS = 4;
    private static final int LABELS = 8;
    private static final int TABLES = 2;

    /** A row is an array of its columns, which are numbered as cell numbers them. */
    private static final int K = 0;
    private static final int V = 1;
    private static final int W = 2;
    private static final int LAB = 3;
    private static final int COLUMNS = 4;

    private static final int MOST_LABEL_ROWS = 6;
    private static final int MOST_SEEN = LABELS * MOST_LABEL_ROWS;
    private static final int MOST_CHARACTERS = 80;
    private static final int MOST_DIGITS = 9;
    private static final int MOST_XS = 3;
    private static final int MOST_OUTER_NESTS = 5;
    private static final int MOST_FOUND = 40;
    private static final int MOST_RECORDS = 30;

    private static final int NONE = -1;
    private static final int NO_STATEMENT = -2;
    private static final int WRONG_NAMES = -3;
    private static final int KEY_TAKEN = -4;
    private static final int NO_ROOM = -5;
    private static final int IN_USE = -6;
    private static final int TOO_MANY_FOUND = -7;
    private static final int NO_TRANSACTION = -8;

    private final Store[] stores = new Store[LABELS];
    private final Session[] sessions = new Session[SESSIONS];
    /** The rows that the session of the call sees: filled anew in each call. */
    private final Rows seen = new Rows(MOST_SEEN);
    private final Parser parser = new Parser();
    private final Selection selection = new Selection(parser.statement);

    public LabelledTables(int label0, int label1, int label2, int label3) {
        for (int label = 0; label < LABELS; label++) {
            stores[label] = new Store(label);
        }
        sessions[0] = new Session(stores[label0 & (LABELS - 1)]);
        sessions[1] = new Session(stores[label1 & (LABELS - 1)]);
        sessions[2] = new Session(stores[label2 & (LABELS - 1)]);
        sessions[3] = new Session(stores[label3 & (LABELS - 1)]);
    }

    public boolean write(int session, long w) {
        return isSession(session) && sessions[session].append(w);
    }

    public int run(int session) {
        if (!isSession(session)) {
            return NONE;
        }
        Session worker = sessions[session];
        boolean understood = parser.parse(worker.draft, worker.draftLength);
        worker.draftLength = 0;
        if (!understood) {
            return NO_STATEMENT;
        }
        if (parser.statement.hasWrongNames()) {
            return WRONG_NAMES;
        }
        if (parser.statement.verb != Token.SELECT) {
            return change(worker.store, session);
        }
        lookForSelection(worker.store.label);
        return selection.select(worker);
    }

    public int begin(int session) {
        if (!isSession(session)) {
            return NONE;
        }
        Store store = sessions[session].store;
        if (store.holder != NONE) {
            return IN_USE;
        }
        store.holder = session;
        return 0;
    }

    public int commit(int session) {
        if (!isSession(session)) {
            return NONE;
        }
        return busy(session) ? sessions[session].store.keep() : NO_TRANSACTION;
    }

    public int abort(int session) {
        if (!isSession(session)) {
            return NONE;
        }
        if (!busy(session)) {
            return NO_TRANSACTION;
        }
        sessions[session].store.drop();
        return 0;
    }

    public int checkpoint(int session) {
        if (!isSession(session)) {
            return NONE;
        }
        Store store = sessions[session].store;
        return store.holder == NONE ? store.writeAnew() : IN_USE;
    }

    public int cut(int session, int n) {
        if (!isSession(session) || n < 0) {
            return NONE;
        }
        if (!busy(session)) {
            return NO_TRANSACTION;
        }
        Store store = sessions[session].store;
        int due = store.recordsDue();
        if (!store.hasRoomFor(due)) {
            return NO_ROOM;
        }
        if (n >= due) {
            store.keep();
        }
        crash();
        return n >= due ? 1 : 0;
    }

    public void crash() {
        for (int label = 0; label < LABELS; label++) {
            stores[label].drop();
        }
        for (int session = 0; session < SESSIONS; session++) {
            sessions[session].clear();
        }
    }

    public int label(int session) {
        return isSession(session) ? sessions[session].store.label : NONE;
    }

    public boolean busy(int session) {
        return isSession(session) && sessions[session].store.holder == session;
    }

    public int log(int session) {
        return isSession(session) ? sessions[session].store.records : NONE;
    }

    public int rows(int session, int table) {
        if (!isSession(session) || !isTable(table)) {
            return NONE;
        }
        look(sessions[session].store.label, table, seen);
        return seen.size;
    }

    public int cell(int session, int table, int k, int w) {
        if (!isSession(session) || !isTable(table) || w < 0 || w >= COLUMNS) {
            return NONE;
        }
        look(sessions[session].store.label, table, seen);
        return k >= 0 && k < seen.size ? seen.row[k][w] : NONE;
    }

    public int results(int session) {
        return isSession(session) ? sessions[session].resultRows : NONE;
    }

    public int value(int session, int r, int c) {
        return isSession(session) ? sessions[session].resultAt(r, c) : 0;
    }

    public int draft(int session) {
        return isSession(session) ? sessions[session].draftLength : NONE;
    }

    private static boolean isSession(int session) {
        return session >= 0 && session < SESSIONS;
    }

    private static boolean isTable(int table) {
        return table >= 0 && table < TABLES;
    }

    private static boolean dominates(int label, int other) {
        return (other & ~label) == 0;
    }

    /** Copies the rows of a table that a label sees, so that later changes do not reach them. */
    private void look(int label, int table, Rows copies) {
        copies.size = 0;
        for (int other = 0; other < LABELS; other++) {
            if (other == label) {
                copies.addAll(stores[other].current[table]);
            } else if (dominates(label, other)) {
                copies.addAll(stores[other].committed[table]);
            }
        }
    }

    private void lookForSelection(int label) {
        look(label, parser.statement.first, selection.first);
        if (parser.statement.hasTwoTables()) {
            look(label, parser.statement.second, selection.second);
        }
    }

    private int change(Store store, int session) {
        if (store.holder != NONE && store.holder != session) {
            return IN_USE;
        }
        look(store.label, parser.statement.first, seen);
        int answer = store.change(parser.statement, seen);
        if (store.holder == NONE && store.keep() == NO_ROOM) {
            store.drop();
            return NO_ROOM;
        }
        return answer;
    }

    /** Rows in order by key; those with the same key in the order in which they were added. */
    private static final class Rows {
        final int[][] row;
        int size;

        Rows(int most) {
            row = new int[most][COLUMNS];
        }

        /** Adds a copy of the row; false when there is no room. */
        boolean add(int[] added) {
            if (size == row.length) {
                return false;
            }
            int[] place = row[size];
            int at = size;
            for (; at > 0 && row[at - 1][K] > added[K]; at--) {
                row[at] = row[at - 1];
            }
            System.arraycopy(added, 0, place, 0, COLUMNS);
            row[at] = place;
            size++;
            return true;
        }

        void addAll(Rows others) {
            for (int i = 0; i < others.size; i++) {
                add(others.row[i]);
            }
        }

        void become(Rows others) {
            size = 0;
            addAll(others);
        }

        void remove(int at) {
            int[] place = row[at];
            size--;
            for (int i = at; i < size; i++) {
                row[i] = row[i + 1];
            }
            row[size] = place;
        }

        int find(int key) {
            for (int i = 0; i < size; i++) {
                if (row[i][K] == key) {
                    return i;
                }
            }
            return NONE;
        }

        /** How many keys have a row in one of the two alone, or rows with other values. */
        int differences(Rows before) {
            int count = 0;
            for (int i = 0; i < size; i++) {
                int at = before.find(row[i][K]);
                if (at == NONE || row[i][V] != before.row[at][V] || row[i][W] != before.row[at][W]) {
                    count++;
                }
            }
            for (int i = 0; i < before.size; i++) {
                if (find(before.row[i][K]) == NONE) {
                    count++;
                }
            }
            return count;
        }

        /** Whether a row with the same key and another label that dominates its label is here. */
        boolean covers(int[] one) {
            for (int i = 0; i < size; i++) {
                if (row[i][K] == one[K] && row[i][LAB] != one[LAB] && dominates(row[i][LAB], one[LAB])) {
                    return true;
                }
            }
            return false;
        }
    }

    /**
     * What is kept for one label. The records of the log are only counted: what they make is always
     * the committed rows, so that a crash needs no more than these.
     */
    private static final class Store {
        final int label;
        final Rows[] committed = new Rows[TABLES];
        /** The rows as the transaction has changed them; without one the same as the committed. */
        final Rows[] current = new Rows[TABLES];
        /** The session that has the transaction, or NONE. */
        int holder = NONE;
        int records;
        private final Rows before = new Rows(MOST_LABEL_ROWS);
        private final int[] made = new int[COLUMNS];

        Store(int label) {
            this.label = label;
            for (int table = 0; table < TABLES; table++) {
                committed[table] = new Rows(MOST_LABEL_ROWS);
                current[table] = new Rows(MOST_LABEL_ROWS);
            }
        }

        /** How many records a commit writes now, with the mark. */
        int recordsDue() {
            int changed = 0;
            for (int table = 0; table < TABLES; table++) {
                changed += current[table].differences(committed[table]);
            }
            return withMark(changed);
        }

        boolean hasRoomFor(int more) {
            return records + more <= MOST_RECORDS;
        }

        /** Commits: how many records were written, or NO_ROOM, and then nothing is done. */
        int keep() {
            int due = recordsDue();
            if (!hasRoomFor(due)) {
                return NO_ROOM;
            }
            records += due;
            for (int table = 0; table < TABLES; table++) {
                committed[table].become(current[table]);
            }
            holder = NONE;
            return due;
        }

        /** Goes back to the committed rows. */
        void drop() {
            for (int table = 0; table < TABLES; table++) {
                current[table].become(committed[table]);
            }
            holder = NONE;
        }

        /** Writes the log anew: how many records it has then. */
        int writeAnew() {
            int kept = 0;
            for (int table = 0; table < TABLES; table++) {
                kept += committed[table].size;
            }
            records = withMark(kept);
            return records;
        }

        private static int withMark(int rowRecords) {
            return rowRecords == 0 ? 0 : rowRecords + 1;
        }

        /** What the statement, which is no select, gives; visible are the rows that the label sees. */
        int change(Statement statement, Rows visible) {
            Rows own = current[statement.first];
            if (statement.verb == Token.INSERT) {
                return insert(statement, own);
            }
            return statement.verb == Token.DELETE
                    ? delete(statement, own) : update(statement, own, visible);
        }

        private int insert(Statement statement, Rows own) {
            for (int column = K; column <= W; column++) {
                made[column] = statement.workOut(statement.x[column]);
            }
            made[LAB] = label;
            if (own.find(made[K]) != NONE) {
                return KEY_TAKEN;
            }
            return own.add(made) ? 1 : NO_ROOM;
        }

        private int delete(Statement statement, Rows own) {
            int count = 0;
            for (int i = own.size - 1; i >= 0; i--) {
                statement.point(own.row[i]);
                if (statement.holds()) {
                    own.remove(i);
                    count++;
                }
            }
            return count;
        }

        private int update(Statement statement, Rows own, Rows visible) {
            before.become(own);
            int count = 0;
            for (int i = 0; i < visible.size; i++) {
                int[] old = visible.row[i];
                statement.point(old);
                if (!statement.holds()) {
                    continue;
                }
                int value = statement.workOut(statement.x[0]);
                int at = own.find(old[K]);
                if (old[LAB] == label && at != NONE) {
                    own.row[at][statement.column] = value;
                    count++;
                } else if (at == NONE) {
                    if (!addChanged(own, old, statement.column, value)) {
                        own.become(before);
                        return NO_ROOM;
                    }
                    count++;
                }
            }
            return count;
        }

        /** Adds a row of this label like the old one, but with the value in the column. */
        private boolean addChanged(Rows own, int[] old, int column, int value) {
            System.arraycopy(old, 0, made, 0, COLUMNS);
            made[column] = value;
            made[LAB] = label;
            return own.add(made);
        }
    }

    /** A session: its draft and its results. */
    private static final class Session {
        final Store store;
        final char[] draft = new char[MOST_CHARACTERS];
        int draftLength;
        final int[][] results = new int[MOST_FOUND][MOST_XS];
        int resultRows;
        int resultColumns;

        Session(Store store) {
            this.store = store;
        }

        boolean append(long w) {
            // What stands behind the draft's length is no part of it, so a refusal undoes nothing.
            int length = draftLength;
            for (int shift = 56; shift >= 0; shift -= 8) {
                int code = (int) (w >>> shift) & 255;
                if (code == 0) {
                    continue;
                }
                if (code < 32 || code > 126 || length == MOST_CHARACTERS) {
                    return false;
                }
                draft[length] = (char) code;
                length++;
            }
            draftLength = length;
            return true;
        }

        int resultAt(int r, int c) {
            return r >= 0 && r < resultRows && c >= 0 && c < resultColumns ? results[r][c] : 0;
        }

        void clear() {
            draftLength = 0;
            resultRows = 0;
        }
    }

    /** The kinds of tokens; those with a text are that text. */
    private enum Token {
        INSERT("insert"), UPDATE("update"), DELETE("delete"), SELECT("select"), TOP("top"),
        FROM("from"), WHERE("where"), GROUP("group"), ORDER("order"), DESC("desc"),
        COUNT("count"), SUM("sum"), AND("and"), OR("or"), NOT("not"),
        COLUMN_K("k", K), COLUMN_V("v", V), COLUMN_W("w", W), COLUMN_LAB("lab", LAB),
        NAME_A("A"), NAME_B("B"), PERIOD("."), COMMA(","),
        OPEN("("), CLOSE(")"), OPEN_CONDITION("["), CLOSE_CONDITION("]"),
        PLUS("+"), MINUS("-"), TIMES("*"), EQUAL("="), LESS("<"), GREATER(">"),
        NUMBER(""), COLUMN(""), OTHER(""), END("");

        private static final Token[] ALL = values();
        private final String text;
        /** The column that it means, or NONE. */
        final int column;

        Token(String text) {
            this(text, NONE);
        }

        Token(String text, int column) {
            this.text = text;
            this.column = column;
        }

        /** The token whose text stands in these characters from start on, before end. */
        static Token of(char[] characters, int start, int end) {
            for (int i = 0; i < ALL.length; i++) {
                if (ALL[i].isAt(characters, start, end)) {
                    return ALL[i];
                }
            }
            return OTHER;
        }

        private boolean isAt(char[] characters, int start, int end) {
            if (text.length() != end - start) {
                return false;
            }
            for (int i = 0; i < text.length(); i++) {
                if (text.charAt(i) != characters[start + i]) {
                    return false;
                }
            }
            return true;
        }
    }

    /** The tokens of a text, with END behind the last one. */
    private static final class Scanner {
        private static final int SINGLE = 0;
        private static final int LETTER = 1;
        private static final int DIGIT = 2;

        final Token[] tokens = new Token[MOST_CHARACTERS + 1];
        /** For each token what it is, when it is a number. */
        final int[] numbers = new int[MOST_CHARACTERS + 1];

        void scan(char[] text, int length) {
            int count = 0;
            int end = 0;
            for (int start = 0; start < length; start++) {
                if (start < end || text[start] == ' ') {
                    continue;
                }
                end = endOf(text, start, length);
                if (kindOf(text[start]) != DIGIT) {
                    tokens[count] = Token.of(text, start, end);
                } else if (end - start > MOST_DIGITS) {
                    tokens[count] = Token.OTHER;
                } else {
                    tokens[count] = Token.NUMBER;
                    numbers[count] = numberOf(text, start, end);
                }
                count++;
            }
            tokens[count] = Token.END;
        }

        private static int endOf(char[] text, int start, int length) {
            int kind = kindOf(text[start]);
            int end = start + 1;
            while (kind != SINGLE && end < length && kindOf(text[end]) == kind) {
                end++;
            }
            return end;
        }

        private static int kindOf(char c) {
            if (c >= 'a' && c <= 'z') {
                return LETTER;
            }
            return c >= '0' && c <= '9' ? DIGIT : SINGLE;
        }

        private static int numberOf(char[] text, int start, int end) {
            int number = 0;
            for (int i = start; i < end; i++) {
                number = number * 10 + (text[i] - '0');
            }
            return number;
        }
    }

    /** An X, an E, a C or a COL: steps that work with a stack, operands before their sign. */
    private static final class Code {
        static final int ABSENT = 0;
        static final int PLAIN = 1;
        static final int COUNT = 2;
        static final int SUM = 3;

        /** No token makes more than two steps, in a text that is no statement neither. */
        private static final int MOST_STEPS = 2 * MOST_CHARACTERS;

        int kind = ABSENT;
        private final Token[] steps = new Token[MOST_STEPS];
        private final int[] operands = new int[MOST_STEPS];
        private final int[] stack = new int[MOST_STEPS];
        private int size;

        void clear() {
            kind = ABSENT;
            size = 0;
        }

        boolean isSummary() {
            return kind == COUNT || kind == SUM;
        }

        /** Adds a step that puts a number, or a column's value, on the stack. */
        void put(Token step, int operand) {
            operands[size] = operand;
            join(step);
        }

        /** Adds a step that takes from the stack what its sign joins. */
        void join(Token sign) {
            steps[size] = sign;
            size++;
        }

        /** Its value, of a condition 1 or 0; rowOf is as Statement tells it. */
        int workOut(int[][] rowOf) {
            int height = 0;
            for (int i = 0; i < size; i++) {
                if (steps[i] == Token.NUMBER) {
                    stack[height] = operands[i];
                    height++;
                } else if (steps[i] == Token.COLUMN) {
                    stack[height] = rowOf[operands[i] / COLUMNS][operands[i] % COLUMNS];
                    height++;
                } else if (steps[i] == Token.NOT) {
                    stack[height - 1] = 1 - stack[height - 1];
                } else {
                    height--;
                    stack[height - 1] = joined(stack[height - 1], steps[i], stack[height]);
                }
            }
            return stack[0];
        }

        private static int joined(int left, Token sign, int right) {
            if (sign == Token.PLUS) {
                return left + right;
            }
            if (sign == Token.MINUS) {
                return left - right;
            }
            if (sign == Token.TIMES) {
                return left * right;
            }
            if (sign == Token.AND) {
                return left & right;
            }
            if (sign == Token.OR) {
                return left | right;
            }
            if (sign == Token.EQUAL) {
                return left == right ? 1 : 0;
            }
            return (sign == Token.LESS ? left < right : left > right) ? 1 : 0;
        }
    }

    /** A statement, and the row (or the pair of rows) for which it is worked out. */
    private static final class Statement {
        /** Stands for the table of a COL without a name. */
        static final int UNNAMED = TABLES;

        Token verb = Token.END;
        boolean top;
        boolean descending;
        int first;
        int second;
        /** The column that an update changes. */
        int column;
        /** How many X stand before from. */
        int xs;
        /** Of an insert the three values, of an update the value. */
        final Code[] x = new Code[MOST_XS];
        final Code where = new Code();
        final Code group = new Code();
        final Code order = new Code();
        final boolean[] hasColumnOf = new boolean[TABLES + 1];
        /** For each table, and for UNNAMED, the row that its COLs are of. */
        private final int[][] rowOf = new int[TABLES + 1][COLUMNS];

        Statement() {
            for (int i = 0; i < MOST_XS; i++) {
                x[i] = new Code();
            }
        }

        /** Makes it one without all that a statement may leave out. */
        void clear() {
            second = NONE;
            for (int i = 0; i < MOST_XS; i++) {
                x[i].clear();
            }
            where.clear();
            group.clear();
            order.clear();
            for (int table = 0; table <= UNNAMED; table++) {
                hasColumnOf[table] = false;
            }
        }

        boolean hasTwoTables() {
            return second != NONE;
        }

        boolean hasWrongNames() {
            boolean wrong = first == second;
            for (int table = 0; table <= UNNAMED; table++) {
                wrong = wrong || hasColumnOf[table] && !mayHaveColumnOf(table);
            }
            return wrong;
        }

        private boolean mayHaveColumnOf(int table) {
            if (verb == Token.INSERT) {
                return false;
            }
            return table == UNNAMED ? !hasTwoTables() : table == first || table == second;
        }

        /** Whether all that is found makes one group, when nothing else parts it. */
        boolean isSummary() {
            boolean summary = order.isSummary();
            for (int i = 0; i < xs; i++) {
                summary = summary || x[i].isSummary();
            }
            return summary;
        }

        void point(int[] row) {
            rowOf[first] = row;
            rowOf[UNNAMED] = row;
        }

        void pointSecond(int[] row) {
            rowOf[second] = row;
        }

        boolean holds() {
            return where.kind == Code.ABSENT || where.workOut(rowOf) == 1;
        }

        int workOut(Code code) {
            return code.workOut(rowOf);
        }
    }

    /**
     * Makes a statement of a text. What is wrong is only noted, and reading goes on: it ends all the
     * same, as each step takes a token or is guarded by the depth, the number of nests round it.
     */
    private static final class Parser {
        final Statement statement = new Statement();
        private final Scanner scanner = new Scanner();
        /** The place of the next token. */
        private int at;
        private boolean wrong;

        boolean parse(char[] text, int length) {
            scanner.scan(text, length);
            at = 0;
            wrong = false;
            statement.clear();
            statement.verb = next();
            if (take(Token.INSERT)) {
                readInsert();
            } else if (take(Token.UPDATE)) {
                readUpdate();
                readWhere();
            } else if (take(Token.DELETE)) {
                statement.first = readTable();
                readWhere();
            } else if (take(Token.SELECT)) {
                readSelected();
                readWhere();
                readArrangement();
            } else {
                wrong = true;
            }
            return !wrong && next() == Token.END;
        }

        private Token next() {
            return scanner.tokens[at];
        }

        private boolean take(Token token) {
            boolean taken = scanner.tokens[at] == token;
            if (taken) {
                at++;
            }
            return taken;
        }

        private void need(Token token) {
            if (scanner.tokens[at] == token) {
                at++;
            } else {
                wrong = true;
            }
        }

        private void readInsert() {
            statement.first = readTable();
            readE(statement.x[0], 0);
            need(Token.COMMA);
            readE(statement.x[1], 0);
            need(Token.COMMA);
            readE(statement.x[2], 0);
        }

        private void readUpdate() {
            statement.first = readTable();
            statement.column = take(Token.COLUMN_V) ? V : W;
            if (statement.column == W) {
                need(Token.COLUMN_W);
            }
            need(Token.EQUAL);
            readE(statement.x[0], 0);
        }

        private void readSelected() {
            statement.top = take(Token.TOP);
            readX(statement.x[0]);
            statement.xs = 1;
            for (int i = 1; i < MOST_XS && take(Token.COMMA); i++) {
                readX(statement.x[i]);
                statement.xs++;
            }
            need(Token.FROM);
            statement.first = readTable();
            if (take(Token.COMMA)) {
                statement.second = readTable();
            }
        }

        private void readArrangement() {
            if (take(Token.GROUP)) {
                statement.group.kind = Code.PLAIN;
                readColumn(statement.group);
            }
            if (take(Token.ORDER)) {
                readX(statement.order);
                statement.descending = take(Token.DESC);
            }
        }

        private void readX(Code code) {
            if (take(Token.COUNT)) {
                code.kind = Code.COUNT;
            } else if (take(Token.SUM)) {
                code.kind = Code.SUM;
                need(Token.OPEN);
                readE(code, 0);
                need(Token.CLOSE);
            } else {
                code.kind = Code.PLAIN;
                readE(code, 0);
            }
        }

        private void readWhere() {
            if (take(Token.WHERE)) {
                statement.where.kind = Code.PLAIN;
                readC(statement.where, 0);
            }
        }

        private int readTable() {
            if (take(Token.NAME_A)) {
                return 0;
            }
            need(Token.NAME_B);
            return 1;
        }

        private void readColumn(Code code) {
            int table = Statement.UNNAMED;
            if (next() == Token.NAME_A || next() == Token.NAME_B) {
                table = readTable();
                need(Token.PERIOD);
            }
            int column = next().column;
            if (column == NONE) {
                wrong = true;
                return;
            }
            at++;
            statement.hasColumnOf[table] = true;
            code.put(Token.COLUMN, table * COLUMNS + column);
        }

        private void readE(Code code, int depth) {
            readP(code, depth);
            for (int i = 0; i < MOST_CHARACTERS && isSign(next()); i++) {
                Token sign = next();
                at++;
                readP(code, depth);
                code.join(sign);
            }
        }

        private static boolean isSign(Token token) {
            return token == Token.PLUS || token == Token.MINUS;
        }

        private void readP(Code code, int depth) {
            readF(code, depth);
            for (int i = 0; i < MOST_CHARACTERS && take(Token.TIMES); i++) {
                readF(code, depth);
                code.join(Token.TIMES);
            }
        }

        private void readF(Code code, int depth) {
            if (next() == Token.NUMBER) {
                code.put(Token.NUMBER, scanner.numbers[at]);
                at++;
            } else if (take(Token.OPEN)) {
                if (mayNest(depth)) {
                    readE(code, depth + 1);
                }
                need(Token.CLOSE);
            } else if (take(Token.MINUS)) {
                code.put(Token.NUMBER, 0);
                if (mayNest(depth)) {
                    readF(code, depth + 1);
                }
                code.join(Token.MINUS);
            } else {
                readColumn(code);
            }
        }

        private void readC(Code code, int depth) {
            readK(code, depth);
            for (int i = 0; i < MOST_CHARACTERS && take(Token.OR); i++) {
                readK(code, depth);
                code.join(Token.OR);
            }
        }

        private void readK(Code code, int depth) {
            readN(code, depth);
            for (int i = 0; i < MOST_CHARACTERS && take(Token.AND); i++) {
                readN(code, depth);
                code.join(Token.AND);
            }
        }

        private void readN(Code code, int depth) {
            if (take(Token.OPEN_CONDITION)) {
                if (mayNest(depth)) {
                    readC(code, depth + 1);
                }
                need(Token.CLOSE_CONDITION);
            } else if (take(Token.NOT)) {
                if (mayNest(depth)) {
                    readN(code, depth + 1);
                }
                code.join(Token.NOT);
            } else {
                readE(code, depth);
                Token sign = next();
                if (sign != Token.EQUAL && sign != Token.LESS) {
                    sign = Token.GREATER;
                }
                need(sign);
                readE(code, depth);
                code.join(sign);
            }
        }

        private boolean mayNest(int depth) {
            if (depth > MOST_OUTER_NESTS) {
                wrong = true;
            }
            return depth <= MOST_OUTER_NESTS;
        }
    }

    /** Works out selects: what is found, its groups, and their order. */
    private static final class Selection {
        /** The rows of the statement's tables that are seen; the second ones only with two tables. */
        final Rows first = new Rows(MOST_SEEN);
        final Rows second = new Rows(MOST_SEEN);
        private final Statement statement;
        private int found;
        private final int[] foundFirst = new int[MOST_FOUND];
        private final int[] foundSecond = new int[MOST_FOUND];
        private int groups;
        private final int[] groupOf = new int[MOST_FOUND];
        /** For each found one its value of the COL behind group. */
        private final int[] mark = new int[MOST_FOUND];
        /** For each group its value of the X behind order. */
        private final int[] rank = new int[MOST_FOUND];
        /** The groups in the order of the results. */
        private final int[] sorted = new int[MOST_FOUND];

        Selection(Statement statement) {
            this.statement = statement;
        }

        /** Gives the session the statement's results: how many. */
        int select(Session session) {
            if (!find()) {
                return TOO_MANY_FOUND;
            }
            part();
            sort();
            session.resultRows = groups;
            session.resultColumns = statement.xs;
            for (int r = 0; r < groups; r++) {
                for (int c = 0; c < statement.xs; c++) {
                    session.results[r][c] = valueFor(statement.x[c], sorted[r]);
                }
            }
            return groups;
        }

        /** False when too many are found. */
        private boolean find() {
            found = 0;
            int partners = statement.hasTwoTables() ? second.size : 1;
            for (int i = 0; i < first.size; i++) {
                for (int j = 0; j < partners; j++) {
                    if (!isFound(i, j)) {
                        continue;
                    }
                    if (found == MOST_FOUND) {
                        return false;
                    }
                    foundFirst[found] = i;
                    foundSecond[found] = j;
                    found++;
                }
            }
            return true;
        }

        private boolean isFound(int i, int j) {
            point(i, j);
            return !(statement.top && isCovered(i, j)) && statement.holds();
        }

        private boolean isCovered(int i, int j) {
            return first.covers(first.row[i])
                    || statement.hasTwoTables() && second.covers(second.row[j]);
        }

        private void pointFound(int i) {
            point(foundFirst[i], foundSecond[i]);
        }

        private void point(int i, int j) {
            statement.point(first.row[i]);
            if (statement.hasTwoTables()) {
                statement.pointSecond(second.row[j]);
            }
        }

        /** Parts the found ones into groups. */
        private void part() {
            groups = 0;
            boolean together = statement.isSummary();
            for (int i = 0; i < found; i++) {
                int like = NONE;
                if (statement.group.kind != Code.ABSENT) {
                    pointFound(i);
                    mark[i] = statement.workOut(statement.group);
                    like = firstWithMarkOf(i);
                } else if (together && i > 0) {
                    like = 0;
                }
                groupOf[i] = like == NONE ? groups : groupOf[like];
                groups += like == NONE ? 1 : 0;
            }
        }

        private int firstWithMarkOf(int i) {
            for (int before = 0; before < i; before++) {
                if (mark[before] == mark[i]) {
                    return before;
                }
            }
            return NONE;
        }

        private void sort() {
            boolean ordered = statement.order.kind != Code.ABSENT;
            for (int group = 0; group < groups; group++) {
                rank[group] = ordered ? valueFor(statement.order, group) : 0;
                int at = group;
                for (; at > 0 && comesBefore(group, sorted[at - 1]); at--) {
                    sorted[at] = sorted[at - 1];
                }
                sorted[at] = group;
            }
        }

        private boolean comesBefore(int group, int other) {
            return statement.descending ? rank[group] > rank[other] : rank[group] < rank[other];
        }

        private int valueFor(Code x, int group) {
            int total = 0;
            for (int i = 0; i < found; i++) {
                if (groupOf[i] != group) {
                    continue;
                }
                pointFound(i);
                if (x.kind == Code.PLAIN) {
                    return statement.workOut(x);
                }
                total += x.kind == Code.COUNT ? 1 : statement.workOut(x);
            }
            return total;
        }
    }
}
