import java.util.ArrayList;
import java.util.List;
import java.util.Random;

/** Runs of calls as sessions at work might make them, wrong ones among them. The seed gives them all. */
final class Calls {
    /** The document says nothing of an object after so many calls. */
    static final int MOST = 512;

    private final Random random;
    private final Drafts drafts;
    private final List<Call> calls = new ArrayList<>();

    private Calls(Random random) {
        this.random = random;
        drafts = new Drafts(random);
    }

    static List<Call> of(Random random) {
        Calls made = new Calls(random);
        while (made.calls.size() < MOST) {
            made.addSome();
        }
        return made.calls.subList(0, MOST);
    }

    private int session() {
        return random.nextInt(60) == 0 ? random.nextInt(2) * 5 - 1 : random.nextInt(4);
    }

    private int small(int bound) {
        return random.nextInt(25) == 0 ? -1 : random.nextInt(bound);
    }

    private void add(String name, Object... arguments) {
        calls.add(new Call(name, arguments));
    }

    private void addSome() {
        int kind = random.nextInt(100);
        int session = session();
        if (kind < 50) {
            addRun(session);
        } else if (kind < 58) {
            add("begin", session);
        } else if (kind < 64) {
            add("commit", session);
        } else if (kind < 66) {
            add("abort", session);
        } else if (kind < 67) {
            add("checkpoint", session);
        } else if (kind < 69) {
            add("cut", session, small(6));
        } else if (kind < 70) {
            add("crash");
        } else {
            addLook(session);
        }
    }

    private void addRun(int session) {
        String text = drafts.next();
        for (int i = 0; i < text.length(); i += 8) {
            add("write", session, Trial.pack(text.substring(i, Math.min(i + 8, text.length()))));
        }
        if (random.nextInt(30) == 0) {
            add("write", session, random.nextInt(2) == 0 ? random.nextLong() : random.nextLong() & 0x7f00007f007f0000L);
        }
        add("run", session);
        if (text.startsWith("select")) {
            add("results", session);
            for (int i = random.nextInt(4); i > 0; i--) {
                add("value", session, small(random.nextInt(4) == 0 ? 41 : 4), small(4));
            }
        } else {
            add("log", session);
        }
    }

    private void addLook(int session) {
        int kind = random.nextInt(10);
        if (kind < 1) {
            add("label", session);
        } else if (kind < 2) {
            add("busy", session);
        } else if (kind < 3) {
            add("log", session);
        } else if (kind < 4) {
            add("draft", session);
        } else if (kind < 5) {
            add("results", session);
        } else if (kind < 6) {
            add("value", session, small(5), small(4));
        } else {
            int table = small(3);
            add("rows", session, table);
            for (int i = random.nextInt(6); i >= 0; i--) {
                add("cell", session, table, small(i == 0 ? 25 : 6), small(5));
            }
        }
    }
}
