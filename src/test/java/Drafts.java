import java.util.Random;

/** Texts for drafts: most are statements, some are nearly statements. The seed gives them all. */
final class Drafts {
    private static final String[] TOKENS = {
        "insert", "update", "delete", "select", "top", "from", "where", "group", "order", "desc", "count", "sum",
        "and", "or", "not", "k", "v", "w", "lab", "A", "B", "A.k", "(", ")", "[", "]", ",", ".", "+", "-", "*",
        "=", "<", ">", "1", "23",
    };

    private final Random random;
    /** Whether the tables are to become full: with more inserts, and more selects of both tables. */
    private final boolean full;
    private boolean two;
    private String table = "A";

    Drafts(Random random) {
        this.random = random;
        full = chance(40);
    }

    /** A text that begins like a statement, and goes on with any tokens, as many as there is room for. */
    static String soup(Random random) {
        String[] starts = {"", "select ", "delete A where ", "update B v=", "insert A ", "select k from A order "};
        StringBuilder text = new StringBuilder(starts[random.nextInt(starts.length)]);
        int first = random.nextInt(TOKENS.length);
        int kinds = 1 + random.nextInt(random.nextBoolean() ? 4 : TOKENS.length);
        while (text.length() < 80) {
            String token = TOKENS[(first + random.nextInt(kinds) * 7) % TOKENS.length];
            text.append(Character.isLetter(token.charAt(0)) ? " " : "").append(token);
        }
        return text.substring(0, 80);
    }

    private boolean chance(int percent) {
        return random.nextInt(100) < percent;
    }

    private String oneOf(String... texts) {
        return texts[random.nextInt(texts.length)];
    }

    /** A text of at most 80 characters. */
    String next() {
        String text = statement();
        if (chance(6)) {
            text = spoiled(text);
        }
        if (chance(10)) {
            text = text.replace(" ", "  ");
        }
        return text.length() > 80 ? statement().substring(0, 6) + " A" : text;
    }

    private String spoiled(String text) {
        int at = random.nextInt(text.length());
        String rest = text.substring(at + (chance(50) ? 1 : 0));
        return text.substring(0, at) + oneOf("", " ", "(", ")", "[", "]", "k", "A", "1", ",", ".", "-", "=", "not ", "C", "?")
                + rest;
    }

    private String statement() {
        two = false;
        table = oneOf("A", "A", "B");
        int kind = random.nextInt(100);
        if (kind < (full ? 50 : 30)) {
            return "insert " + table + " " + number() + "," + constant() + "," + constant();
        }
        if (kind < (full ? 52 : 42)) {
            return "delete " + table + where(95);
        }
        if (kind < (full ? 75 : 62)) {
            return "update " + table + " " + oneOf("v", "w") + "=" + value(1) + where(full ? 30 : 60);
        }
        return select();
    }

    private String select() {
        two = chance(full ? 60 : 25);
        String tables = table + (two ? "," + (chance(96) ? table.equals("A") ? "B" : "A" : table) : "");
        StringBuilder text = new StringBuilder("select " + (chance(25) ? "top " : "") + x());
        for (int i = 0; i < 2 && chance(50); i++) {
            text.append(",").append(x());
        }
        text.append(" from ").append(tables).append(where(50));
        if (chance(30)) {
            text.append(" group ").append(column());
        }
        if (chance(35)) {
            text.append(" order ").append(x()).append(chance(50) ? " desc" : "");
        }
        return text.toString();
    }

    private String x() {
        int kind = random.nextInt(10);
        return kind == 0 ? "count" : kind == 1 ? "sum(" + value(1) + ")" : value(1);
    }

    private String where(int percent) {
        return chance(percent) ? " where " + condition(2) : "";
    }

    private String condition(int depth) {
        int kind = random.nextInt(10);
        if (depth == 0 || kind < 5) {
            return value(1) + oneOf("=", "<", ">") + value(1);
        }
        if (kind == 5) {
            return "not " + condition(depth - 1);
        }
        if (kind == 6) {
            return "[" + condition(depth - 1) + "]";
        }
        return condition(depth - 1) + oneOf(" and ", " or ") + condition(depth - 1);
    }

    private String value(int depth) {
        int kind = random.nextInt(12);
        if (depth == 0 || kind < 7) {
            return chance(65) ? column() : number();
        }
        if (kind == 7) {
            return "-" + value(depth - 1);
        }
        if (kind == 8) {
            return "(" + value(depth) + ")";
        }
        return value(depth - 1) + oneOf("+", "-", "*") + value(depth - 1);
    }

    private String constant() {
        return chance(3) ? column() : oneOf("", "", "-", "2*", "999999999*7-", "(1)+") + number();
    }

    private String number() {
        return String.valueOf(random.nextInt(chance(90) ? 6 : 11));
    }

    private String column() {
        String name = chance(two ? 98 : 10) ? oneOf("A", "B") : "";
        if (!two && !name.isEmpty() && chance(90)) {
            name = table;
        }
        return (name.isEmpty() ? "" : name + ".") + oneOf("k", "v", "w", "lab", "k", "v");
    }
}
