import java.util.ArrayList;
import java.util.List;
import java.util.regex.Matcher;
import java.util.regex.Pattern;

/** A statement of the model, read from a text. */
final class ModelText {
    record Row(int k, int v, int w, int lab) {
        int column(int number) {
            return number == 0 ? k : number == 1 ? v : number == 2 ? w : lab;
        }
    }

    /** The value for a row of A and a row of B (both the same when there is but one). */
    interface Value {
        int of(Row a, Row b);
    }

    /** A part of the text, and how deep the nests in it lie in one another. */
    record Part(Value value, int nests) {
        Part nest(Value of) {
            return new Part(of, nests + 1);
        }

        Part with(Part other, Value of) {
            return new Part(of, Math.max(nests, other.nests));
        }
    }

    record X(String kind, Value value) {
        int over(List<Row[]> group) {
            int sum = 0;
            for (Row[] pair : group) {
                int one = kind.equals("count") ? 1 : value.of(pair[0], pair[1]);
                if (kind.isEmpty()) {
                    return one;
                }
                sum += one;
            }
            return sum;
        }
    }

    private static final class NoStatement extends RuntimeException {
        private static final long serialVersionUID = 1;
    }

    private static final Pattern TOKEN = Pattern.compile(" *([a-z]+|[AB]|[0-9]+|[(),.+*=<>\\[\\]-]) *");
    private static final List<String> COLUMNS = List.of("k", "v", "w", "lab");

    String verb = "";
    boolean top = false;
    boolean descending = false;
    int column = -1;
    final List<Integer> tables = new ArrayList<>();
    final List<X> xs = new ArrayList<>();
    Value where = (a, b) -> 1;
    Value group = null;
    X order = null;
    private final List<String> tokens = new ArrayList<>();
    private final List<String> named = new ArrayList<>();
    private int at = 0;

    /** The statement, or null when the text is none. */
    static ModelText read(String text) {
        ModelText statement = new ModelText();
        try {
            statement.split(text);
            statement.statement();
            return statement;
        } catch (NoStatement e) {
            return null;
        }
    }

    boolean isSummary() {
        return xs.stream().anyMatch(x -> !x.kind().isEmpty()) || order != null && !order.kind().isEmpty();
    }

    boolean isMisnamed() {
        if (verb.equals("insert")) {
            return !named.isEmpty();
        }
        if (tables.size() == 2 && tables.get(0).equals(tables.get(1))) {
            return true;
        }
        for (String name : named) {
            if (name.isEmpty() ? tables.size() == 2 : !tables.contains("AB".indexOf(name))) {
                return true;
            }
        }
        return false;
    }

    private void split(String text) {
        Matcher matcher = TOKEN.matcher(text);
        int end = 0;
        while (end < text.length()) {
            if (!matcher.find(end) || matcher.start() != end) {
                throw new NoStatement();
            }
            if (matcher.group(1).matches("[0-9]{10,}")) {
                throw new NoStatement();
            }
            tokens.add(matcher.group(1));
            end = matcher.end();
        }
        tokens.add("");
    }

    private boolean is(String token) {
        return tokens.get(at).equals(token);
    }

    private boolean take(String token) {
        boolean is = is(token);
        at += is ? 1 : 0;
        return is;
    }

    private void need(String token) {
        if (!take(token)) {
            throw new NoStatement();
        }
    }

    private void statement() {
        verb = tokens.get(at++);
        switch (verb) {
            case "insert" -> {
                table();
                xs.add(new X("", value()));
                need(",");
                xs.add(new X("", value()));
                need(",");
                xs.add(new X("", value()));
            }
            case "update" -> {
                table();
                column = is("v") ? 1 : 2;
                need(is("v") ? "v" : "w");
                need("=");
                xs.add(new X("", value()));
                where();
            }
            case "delete" -> {
                table();
                where();
            }
            case "select" -> select();
            default -> throw new NoStatement();
        }
        if (at != tokens.size() - 1) {
            throw new NoStatement();
        }
    }

    private void select() {
        top = take("top");
        do {
            xs.add(x());
        } while (take(","));
        if (xs.size() > 3) {
            throw new NoStatement();
        }
        need("from");
        table();
        if (take(",")) {
            table();
        }
        where();
        if (take("group")) {
            group = column().value();
        }
        if (take("order")) {
            order = x();
            descending = take("desc");
        }
    }

    private X x() {
        if (take("count")) {
            return new X("count", null);
        }
        if (take("sum")) {
            need("(");
            Value value = value();
            need(")");
            return new X("sum", value);
        }
        return new X("", value());
    }

    private void where() {
        if (take("where")) {
            where = shallow(anyOf());
        }
    }

    private void table() {
        tables.add(is("A") ? 0 : 1);
        need(is("A") ? "A" : "B");
    }

    private Value value() {
        return shallow(sum());
    }

    private Value shallow(Part part) {
        if (part.nests() > 6) {
            throw new NoStatement();
        }
        return part.value();
    }

    private Part sum() {
        Part left = product();
        while (is("+") || is("-")) {
            int sign = take("+") ? 1 : -1;
            at += sign < 0 ? 1 : 0;
            Value one = left.value();
            Part right = product();
            left = left.with(right, (a, b) -> one.of(a, b) + sign * right.value().of(a, b));
        }
        return left;
    }

    private Part product() {
        Part left = factor();
        while (take("*")) {
            Value one = left.value();
            Part right = factor();
            left = left.with(right, (a, b) -> one.of(a, b) * right.value().of(a, b));
        }
        return left;
    }

    private Part factor() {
        if (take("(")) {
            Part inner = sum();
            need(")");
            return inner.nest(inner.value());
        }
        if (take("-")) {
            Part inner = factor();
            return inner.nest((a, b) -> -inner.value().of(a, b));
        }
        if (tokens.get(at).matches("[0-9]+")) {
            int number = Integer.parseInt(tokens.get(at++));
            return new Part((a, b) -> number, 0);
        }
        return column();
    }

    private Part column() {
        String name = is("A") || is("B") ? tokens.get(at++) : "";
        if (!name.isEmpty()) {
            need(".");
        }
        int number = COLUMNS.indexOf(tokens.get(at++));
        if (number < 0) {
            throw new NoStatement();
        }
        named.add(name);
        return new Part((a, b) -> (name.equals("B") ? b : a).column(number), 0);
    }

    private Part anyOf() {
        Part left = allOf();
        while (take("or")) {
            Value one = left.value();
            Part right = allOf();
            left = left.with(right, (a, b) -> one.of(a, b) != 0 || right.value().of(a, b) != 0 ? 1 : 0);
        }
        return left;
    }

    private Part allOf() {
        Part left = test();
        while (take("and")) {
            Value one = left.value();
            Part right = test();
            left = left.with(right, (a, b) -> one.of(a, b) != 0 && right.value().of(a, b) != 0 ? 1 : 0);
        }
        return left;
    }

    private Part test() {
        if (take("[")) {
            Part inner = anyOf();
            need("]");
            return inner.nest(inner.value());
        }
        if (take("not")) {
            Part inner = test();
            return inner.nest((a, b) -> inner.value().of(a, b) == 0 ? 1 : 0);
        }
        Part left = sum();
        String sign = tokens.get(at++);
        if (!sign.matches("[=<>]")) {
            throw new NoStatement();
        }
        Part right = sum();
        return left.with(right, (a, b) -> {
            int order = Integer.compare(left.value().of(a, b), right.value().of(a, b));
            return order == (sign.equals("=") ? 0 : sign.equals("<") ? -1 : 1) ? 1 : 0;
        });
    }
}
